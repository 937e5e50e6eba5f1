abbrev rmX5_readOrder : Room := { frames := 4, cells := 0, slots := 0, locals := 87 }
theorem inX5_readOrder_X5 : ∀ w ∈ wsX50, w ∈ wsX5_readOrder := by decide +kernel
theorem lkX5_readOrder_150 : Cond.fieldLink RX5 150 "GaugeBlocksModel" (TX5 10).2.1 (TX5 10).2.2.1 ∈ wsX5_readOrder := by decide +kernel
theorem lkX5_readOrder_147 : Cond.fieldLink RX5 147 "GaugeBlocksModel" (TX5 9).2.1 (TX5 9).2.2.1 ∈ wsX5_readOrder := by decide +kernel
theorem lkX5_readOrder_29 : Cond.fieldLink RX5 29 "GaugeBlocksModel" (TX5 13).2.1 (TX5 13).2.2.1 ∈ wsX5_readOrder := by decide +kernel
theorem lkX5_readOrder_162 : Cond.fieldLink RX5 162 "GaugeBlocksModel" (TX5 12).2.1 (TX5 12).2.2.1 ∈ wsX5_readOrder := by decide +kernel
theorem lkX5_readOrder_35 : Cond.fieldLink RX5 35 "GaugeBlocksModel" (TX5 15).2.1 (TX5 15).2.2.1 ∈ wsX5_readOrder := by decide +kernel
theorem lkX5_readOrder_156 : Cond.fieldLink RX5 156 "GaugeBlocksModel" (TX5 11).2.1 (TX5 11).2.2.1 ∈ wsX5_readOrder := by decide +kernel
theorem lkX5_readOrder_26 : Cond.fieldLink RX5 26 "GaugeBlocksModel" (TX5 8).2.1 (TX5 8).2.2.1 ∈ wsX5_readOrder := by decide +kernel
theorem hdX5_readOrder : yX5_readOrder.cls = RX5 ∧ yX5_readOrder.cls ≠ "java/lang/invoke/MethodHandle" ∧ yX5_readOrder.cls ≠ "java/lang/invoke/VarHandle" ∧ (parseMethodDescriptor yX5_readOrder.desc).map (fun d => d.parameters.length) = some 0 := by decide +kernel
def jX5_readOrder_60 (N : Nat) (v : VM) (l1 : Int32) (s0 : Int32) : Option (VM × Bool) := (if s0 = (0 : Int32) then (if s0 = (0 : Int32) then some (((mRow v), (mSav v), (mSvn v), (mSnp v), (mKep v), (mThr v), (mFre v), (mFrn v), (mBuf v), (mLen v), ((mSpt v) + 0), (mNum v), (mOrd v), (mLet v), (mFst v), (mSnd v), (mTok v), (mLft v)), false) else ((fX5_readNumbers N ((mRow v), (mSav v), (mSvn v), (mSnp v), (mKep v), (mThr v), (mFre v), (mFrn v), (mBuf v), (mLen v), ((mSpt v) + 0), (mNum v), (mOrd v), (mLet v), (mFst v), (mSnd v), (mTok v), (mLft v)) l1).bind fun r1 => (if r1.2 = true then ck (mOrd r1.1) 24 (ck (mOrd r1.1) 24 (some (((mRow r1.1), (mSav r1.1), (mSvn r1.1), (mSnp r1.1), (mKep r1.1), (mThr r1.1), (mFre r1.1), (mFrn r1.1), (mBuf r1.1), (mLen r1.1), (mSpt r1.1), (mNum r1.1), ((mOrd r1.1) + 1), (upd (mLet r1.1) (Int32.toNatClampNeg (mOrd r1.1)) l1), (mFst r1.1), (upd (mSnd r1.1) (Int32.toNatClampNeg (mOrd r1.1)) (mNum r1.1)), (mTok r1.1), (mLft r1.1)), true))) else some (r1.1, false)))) else (if s0 = (0 : Int32) then some (((mRow v), (mSav v), (mSvn v), (mSnp v), (mKep v), (mThr v), (mFre v), (mFrn v), (mBuf v), (mLen v), ((mSpt v) + 1), (mNum v), (mOrd v), (mLet v), (mFst v), (mSnd v), (mTok v), (mLft v)), false) else ((fX5_readNumbers N ((mRow v), (mSav v), (mSvn v), (mSnp v), (mKep v), (mThr v), (mFre v), (mFrn v), (mBuf v), (mLen v), ((mSpt v) + 1), (mNum v), (mOrd v), (mLet v), (mFst v), (mSnd v), (mTok v), (mLft v)) l1).bind fun r2 => (if r2.2 = true then ck (mOrd r2.1) 24 (ck (mOrd r2.1) 24 (some (((mRow r2.1), (mSav r2.1), (mSvn r2.1), (mSnp r2.1), (mKep r2.1), (mThr r2.1), (mFre r2.1), (mFrn r2.1), (mBuf r2.1), (mLen r2.1), (mSpt r2.1), (mNum r2.1), ((mOrd r2.1) + 1), (upd (mLet r2.1) (Int32.toNatClampNeg (mOrd r2.1)) l1), (mFst r2.1), (upd (mSnd r2.1) (Int32.toNatClampNeg (mOrd r2.1)) (mNum r2.1)), (mTok r2.1), (mLft r2.1)), true))) else some (r2.1, false)))))
set_option maxRecDepth 100000 in
set_option maxHeartbeats 4000000 in
theorem wjX5_readOrder_60 {k : Kt} (C : gC k cX5_readOrder 3 RX5 wsX5_readOrder rmX5_readOrder "readOrder") (N : Nat) (aM : Nat → Nat) (zv : VM) (v : VM) (l1 : Int32) (s0 : Int32) (r : VM × Bool) (hf : jX5_readOrder_60 N v l1 s0 = some r) (E : gE k (wM (kD k) aM zv) (fun rv w => rv = some (.int (b2i r.2)) ∧ w = (wM (kD k) aM r.1)) (fun _ _ => False) 0 0 (some .boolean) []) : gG k (wM (kD k) aM v) [(0, .ref (aM 0)), (1, .int l1)] 0 0 60 [.int s0] := by
  unfold jX5_readOrder_60 at hf
  refine g_istore_n (pc := 60) (lv' := [(2, .int s0), (0, .ref (aM 0)), (1, .int l1)]) C dX5_readOrder_60 (by decide) rfl ?_
  refine g_aload_n (pc := 61) (x := (aM 0)) C dX5_readOrder_61 rfl ?_
  refine g_dup (pc := 62) C dX5_readOrder_62 rfl ?_
  refine g_getf (pc := 63) C 0 rfl rfl inX5_readOrder_X5 10 (by decide) lkX5_readOrder_150 rfl rfl dX5_readOrder_63 ?_
  refine g_iload_n (pc := 66) (x := s0) C dX5_readOrder_66 rfl ?_
  refine g_if_eq (pc := 67) (tgt := 74) (x := s0) hf C dX5_readOrder_67 (by decide) (fun hf => ?_) (fun hf => ?_)
  · refine g_iconst (pc := 74) (v := 0) C dX5_readOrder_74 (by decide) ?_
    refine g_iadd (pc := 75) (x := (mSpt v)) (y := 0) C dX5_readOrder_75 ?_
    refine g_putf (pc := 76) C 0 rfl rfl inX5_readOrder_X5 tyX5 tyX5_ok nmX5 10 (by decide) lkX5_readOrder_150 rfl rfl pfX5_10 rfl rfl (Nat.le_of_ble_eq_true rfl) dX5_readOrder_76 (ws' := (wM (kD k) aM ((mRow v), (mSav v), (mSvn v), (mSnp v), (mKep v), (mThr v), (mFre v), (mFrn v), (mBuf v), (mLen v), ((mSpt v) + 0), (mNum v), (mOrd v), (mLet v), (mFst v), (mSnd v), (mTok v), (mLft v)))) rfl ?_
    refine g_iload_n (pc := 79) (x := s0) C dX5_readOrder_79 rfl ?_
    refine g_if_eq (pc := 80) (tgt := 91) (x := s0) hf C dX5_readOrder_80 (by decide) (fun hf => ?_) (fun hf => ?_)
    · refine g_iconst (pc := 91) (v := 0) C dX5_readOrder_91 (by decide) ?_
      obtain rfl := Option.some.inj hf
      exact g_bret (b := false) C E dX5_readOrder_92 (Nat.le_of_ble_eq_true rfl) (Nat.le_of_ble_eq_true rfl) ⟨rfl, rfl⟩
    · refine g_aload_n (pc := 83) (x := (aM 0)) C dX5_readOrder_83 rfl ?_
      refine g_iload_n (pc := 84) (x := l1) C dX5_readOrder_84 rfl ?_
      refine g_callW (wr := []) (pc' := 88) (cs' := 0) (sl' := 0) hf C (fun u => some (.int (b2i u.2))) (fun u => (wM (kD k) aM u.1)) (fun u hu => gr_V (rest := []) C (cX5_readNumbers_ (kL k) C.tr (kD k) N aM ((mRow v), (mSav v), (mSvn v), (mSnp v), (mKep v), (mThr v), (mFre v), (mFrn v), (mBuf v), (mLen v), ((mSpt v) + 0), (mNum v), (mOrd v), (mLet v), (mFst v), (mSnd v), (mTok v), (mLft v)) l1 u hu) (fun ht => cwV 1 ht gX5_readOrder_X5_readNumbers rfl rfl rfl hdX5_readNumbers ⟨(Nat.le_of_ble_eq_true rfl), (Nat.le_of_ble_eq_true rfl)⟩) 0 rfl rfl [0, 1, 2, 3, 4, 5, 6, 7, 8, 9] rfl (by decide) rfl rfl (Nat.le_of_ble_eq_true rfl) dX5_readOrder_85 ⟨(Nat.le_of_ble_eq_true rfl), (Nat.le_of_ble_eq_true rfl)⟩) [0, 1, 2, 3, 4, 5, 6, 7, 8, 9] [] rfl rfl (by decide) (by decide) [0, 1, 2, 3, 4, 5, 6, 7, 8, 9] (by decide) (ws' := fun u => (wM (kD k) aM u.1)) (fun u => rfl) rfl rfl rfl (fun u => [.int (b2i u.2)]) (fun u => rfl) (fun r1 hf => ?_)
      refine g_ifB_ne (pc := 88) (tgt := 93) (b := r1.2) hf C dX5_readOrder_88 (by decide) (fun hf => ?_) (fun hf => ?_)
      · refine g_aload_n (pc := 93) (x := (aM 0)) C dX5_readOrder_93 rfl ?_
        refine g_getf (pc := 94) C 0 rfl rfl inX5_readOrder_X5 13 (by decide) lkX5_readOrder_29 rfl rfl dX5_readOrder_94 ?_
        refine g_aload_n (pc := 97) (x := (aM 0)) C dX5_readOrder_97 rfl ?_
        refine g_getf (pc := 98) C 0 rfl rfl inX5_readOrder_X5 12 (by decide) lkX5_readOrder_162 rfl rfl dX5_readOrder_98 ?_
        refine g_iload_n (pc := 101) (x := l1) C dX5_readOrder_101 rfl ?_
        refine g_iast (pc := 102) (i := (mOrd r1.1)) (x := l1) hf C 7 rfl dX5_readOrder_102 (ws' := (wM (kD k) aM ((mRow r1.1), (mSav r1.1), (mSvn r1.1), (mSnp r1.1), (mKep r1.1), (mThr r1.1), (mFre r1.1), (mFrn r1.1), (mBuf r1.1), (mLen r1.1), (mSpt r1.1), (mNum r1.1), (mOrd r1.1), (upd (mLet r1.1) (Int32.toNatClampNeg (mOrd r1.1)) l1), (mFst r1.1), (mSnd r1.1), (mTok r1.1), (mLft r1.1)))) rfl (fun hf => ?_)
        refine g_aload_n (pc := 103) (x := (aM 0)) C dX5_readOrder_103 rfl ?_
        refine g_getf (pc := 104) C 0 rfl rfl inX5_readOrder_X5 15 (by decide) lkX5_readOrder_35 rfl rfl dX5_readOrder_104 ?_
        refine g_aload_n (pc := 107) (x := (aM 0)) C dX5_readOrder_107 rfl ?_
        refine g_getf (pc := 108) C 0 rfl rfl inX5_readOrder_X5 12 (by decide) lkX5_readOrder_162 rfl rfl dX5_readOrder_108 ?_
        refine g_aload_n (pc := 111) (x := (aM 0)) C dX5_readOrder_111 rfl ?_
        refine g_getf (pc := 112) C 0 rfl rfl inX5_readOrder_X5 11 (by decide) lkX5_readOrder_156 rfl rfl dX5_readOrder_112 ?_
        refine g_iast (pc := 115) (i := (mOrd r1.1)) (x := (mNum r1.1)) hf C 9 rfl dX5_readOrder_115 (ws' := (wM (kD k) aM ((mRow r1.1), (mSav r1.1), (mSvn r1.1), (mSnp r1.1), (mKep r1.1), (mThr r1.1), (mFre r1.1), (mFrn r1.1), (mBuf r1.1), (mLen r1.1), (mSpt r1.1), (mNum r1.1), (mOrd r1.1), (upd (mLet r1.1) (Int32.toNatClampNeg (mOrd r1.1)) l1), (mFst r1.1), (upd (mSnd r1.1) (Int32.toNatClampNeg (mOrd r1.1)) (mNum r1.1)), (mTok r1.1), (mLft r1.1)))) rfl (fun hf => ?_)
        refine g_aload_n (pc := 116) (x := (aM 0)) C dX5_readOrder_116 rfl ?_
        refine g_dup (pc := 117) C dX5_readOrder_117 rfl ?_
        refine g_getf (pc := 118) C 0 rfl rfl inX5_readOrder_X5 12 (by decide) lkX5_readOrder_162 rfl rfl dX5_readOrder_118 ?_
        refine g_iconst (pc := 121) (v := 1) C dX5_readOrder_121 (by decide) ?_
        refine g_iadd (pc := 122) (x := (mOrd r1.1)) (y := 1) C dX5_readOrder_122 ?_
        refine g_putf (pc := 123) C 0 rfl rfl inX5_readOrder_X5 tyX5 tyX5_ok nmX5 12 (by decide) lkX5_readOrder_162 rfl rfl pfX5_12 rfl rfl (Nat.le_of_ble_eq_true rfl) dX5_readOrder_123 (ws' := (wM (kD k) aM ((mRow r1.1), (mSav r1.1), (mSvn r1.1), (mSnp r1.1), (mKep r1.1), (mThr r1.1), (mFre r1.1), (mFrn r1.1), (mBuf r1.1), (mLen r1.1), (mSpt r1.1), (mNum r1.1), ((mOrd r1.1) + 1), (upd (mLet r1.1) (Int32.toNatClampNeg (mOrd r1.1)) l1), (mFst r1.1), (upd (mSnd r1.1) (Int32.toNatClampNeg (mOrd r1.1)) (mNum r1.1)), (mTok r1.1), (mLft r1.1)))) rfl ?_
        refine g_iconst (pc := 126) (v := 1) C dX5_readOrder_126 (by decide) ?_
        obtain rfl := Option.some.inj hf
        exact g_bret (b := true) C E dX5_readOrder_127 (Nat.le_of_ble_eq_true rfl) (Nat.le_of_ble_eq_true rfl) ⟨rfl, rfl⟩
      · refine g_iconst (pc := 91) (v := 0) C dX5_readOrder_91 (by decide) ?_
        obtain rfl := Option.some.inj hf
        exact g_bret (b := false) C E dX5_readOrder_92 (Nat.le_of_ble_eq_true rfl) (Nat.le_of_ble_eq_true rfl) ⟨rfl, rfl⟩
  · refine g_iconst (pc := 70) (v := 1) C dX5_readOrder_70 (by decide) ?_
    refine g_goto (pc := 71) (tgt := 75) C dX5_readOrder_71 (by decide) ?_
    refine g_iadd (pc := 75) (x := (mSpt v)) (y := 1) C dX5_readOrder_75 ?_
    refine g_putf (pc := 76) C 0 rfl rfl inX5_readOrder_X5 tyX5 tyX5_ok nmX5 10 (by decide) lkX5_readOrder_150 rfl rfl pfX5_10 rfl rfl (Nat.le_of_ble_eq_true rfl) dX5_readOrder_76 (ws' := (wM (kD k) aM ((mRow v), (mSav v), (mSvn v), (mSnp v), (mKep v), (mThr v), (mFre v), (mFrn v), (mBuf v), (mLen v), ((mSpt v) + 1), (mNum v), (mOrd v), (mLet v), (mFst v), (mSnd v), (mTok v), (mLft v)))) rfl ?_
    refine g_iload_n (pc := 79) (x := s0) C dX5_readOrder_79 rfl ?_
    refine g_if_eq (pc := 80) (tgt := 91) (x := s0) hf C dX5_readOrder_80 (by decide) (fun hf => ?_) (fun hf => ?_)
    · refine g_iconst (pc := 91) (v := 0) C dX5_readOrder_91 (by decide) ?_
      obtain rfl := Option.some.inj hf
      exact g_bret (b := false) C E dX5_readOrder_92 (Nat.le_of_ble_eq_true rfl) (Nat.le_of_ble_eq_true rfl) ⟨rfl, rfl⟩
    · refine g_aload_n (pc := 83) (x := (aM 0)) C dX5_readOrder_83 rfl ?_
      refine g_iload_n (pc := 84) (x := l1) C dX5_readOrder_84 rfl ?_
      refine g_callW (wr := []) (pc' := 88) (cs' := 0) (sl' := 0) hf C (fun u => some (.int (b2i u.2))) (fun u => (wM (kD k) aM u.1)) (fun u hu => gr_V (rest := []) C (cX5_readNumbers_ (kL k) C.tr (kD k) N aM ((mRow v), (mSav v), (mSvn v), (mSnp v), (mKep v), (mThr v), (mFre v), (mFrn v), (mBuf v), (mLen v), ((mSpt v) + 1), (mNum v), (mOrd v), (mLet v), (mFst v), (mSnd v), (mTok v), (mLft v)) l1 u hu) (fun ht => cwV 1 ht gX5_readOrder_X5_readNumbers rfl rfl rfl hdX5_readNumbers ⟨(Nat.le_of_ble_eq_true rfl), (Nat.le_of_ble_eq_true rfl)⟩) 0 rfl rfl [0, 1, 2, 3, 4, 5, 6, 7, 8, 9] rfl (by decide) rfl rfl (Nat.le_of_ble_eq_true rfl) dX5_readOrder_85 ⟨(Nat.le_of_ble_eq_true rfl), (Nat.le_of_ble_eq_true rfl)⟩) [0, 1, 2, 3, 4, 5, 6, 7, 8, 9] [] rfl rfl (by decide) (by decide) [0, 1, 2, 3, 4, 5, 6, 7, 8, 9] (by decide) (ws' := fun u => (wM (kD k) aM u.1)) (fun u => rfl) rfl rfl rfl (fun u => [.int (b2i u.2)]) (fun u => rfl) (fun r2 hf => ?_)
      refine g_ifB_ne (pc := 88) (tgt := 93) (b := r2.2) hf C dX5_readOrder_88 (by decide) (fun hf => ?_) (fun hf => ?_)
      · refine g_aload_n (pc := 93) (x := (aM 0)) C dX5_readOrder_93 rfl ?_
        refine g_getf (pc := 94) C 0 rfl rfl inX5_readOrder_X5 13 (by decide) lkX5_readOrder_29 rfl rfl dX5_readOrder_94 ?_
        refine g_aload_n (pc := 97) (x := (aM 0)) C dX5_readOrder_97 rfl ?_
        refine g_getf (pc := 98) C 0 rfl rfl inX5_readOrder_X5 12 (by decide) lkX5_readOrder_162 rfl rfl dX5_readOrder_98 ?_
        refine g_iload_n (pc := 101) (x := l1) C dX5_readOrder_101 rfl ?_
        refine g_iast (pc := 102) (i := (mOrd r2.1)) (x := l1) hf C 7 rfl dX5_readOrder_102 (ws' := (wM (kD k) aM ((mRow r2.1), (mSav r2.1), (mSvn r2.1), (mSnp r2.1), (mKep r2.1), (mThr r2.1), (mFre r2.1), (mFrn r2.1), (mBuf r2.1), (mLen r2.1), (mSpt r2.1), (mNum r2.1), (mOrd r2.1), (upd (mLet r2.1) (Int32.toNatClampNeg (mOrd r2.1)) l1), (mFst r2.1), (mSnd r2.1), (mTok r2.1), (mLft r2.1)))) rfl (fun hf => ?_)
        refine g_aload_n (pc := 103) (x := (aM 0)) C dX5_readOrder_103 rfl ?_
        refine g_getf (pc := 104) C 0 rfl rfl inX5_readOrder_X5 15 (by decide) lkX5_readOrder_35 rfl rfl dX5_readOrder_104 ?_
        refine g_aload_n (pc := 107) (x := (aM 0)) C dX5_readOrder_107 rfl ?_
        refine g_getf (pc := 108) C 0 rfl rfl inX5_readOrder_X5 12 (by decide) lkX5_readOrder_162 rfl rfl dX5_readOrder_108 ?_
        refine g_aload_n (pc := 111) (x := (aM 0)) C dX5_readOrder_111 rfl ?_
        refine g_getf (pc := 112) C 0 rfl rfl inX5_readOrder_X5 11 (by decide) lkX5_readOrder_156 rfl rfl dX5_readOrder_112 ?_
        refine g_iast (pc := 115) (i := (mOrd r2.1)) (x := (mNum r2.1)) hf C 9 rfl dX5_readOrder_115 (ws' := (wM (kD k) aM ((mRow r2.1), (mSav r2.1), (mSvn r2.1), (mSnp r2.1), (mKep r2.1), (mThr r2.1), (mFre r2.1), (mFrn r2.1), (mBuf r2.1), (mLen r2.1), (mSpt r2.1), (mNum r2.1), (mOrd r2.1), (upd (mLet r2.1) (Int32.toNatClampNeg (mOrd r2.1)) l1), (mFst r2.1), (upd (mSnd r2.1) (Int32.toNatClampNeg (mOrd r2.1)) (mNum r2.1)), (mTok r2.1), (mLft r2.1)))) rfl (fun hf => ?_)
        refine g_aload_n (pc := 116) (x := (aM 0)) C dX5_readOrder_116 rfl ?_
        refine g_dup (pc := 117) C dX5_readOrder_117 rfl ?_
        refine g_getf (pc := 118) C 0 rfl rfl inX5_readOrder_X5 12 (by decide) lkX5_readOrder_162 rfl rfl dX5_readOrder_118 ?_
        refine g_iconst (pc := 121) (v := 1) C dX5_readOrder_121 (by decide) ?_
        refine g_iadd (pc := 122) (x := (mOrd r2.1)) (y := 1) C dX5_readOrder_122 ?_
        refine g_putf (pc := 123) C 0 rfl rfl inX5_readOrder_X5 tyX5 tyX5_ok nmX5 12 (by decide) lkX5_readOrder_162 rfl rfl pfX5_12 rfl rfl (Nat.le_of_ble_eq_true rfl) dX5_readOrder_123 (ws' := (wM (kD k) aM ((mRow r2.1), (mSav r2.1), (mSvn r2.1), (mSnp r2.1), (mKep r2.1), (mThr r2.1), (mFre r2.1), (mFrn r2.1), (mBuf r2.1), (mLen r2.1), (mSpt r2.1), (mNum r2.1), ((mOrd r2.1) + 1), (upd (mLet r2.1) (Int32.toNatClampNeg (mOrd r2.1)) l1), (mFst r2.1), (upd (mSnd r2.1) (Int32.toNatClampNeg (mOrd r2.1)) (mNum r2.1)), (mTok r2.1), (mLft r2.1)))) rfl ?_
        refine g_iconst (pc := 126) (v := 1) C dX5_readOrder_126 (by decide) ?_
        obtain rfl := Option.some.inj hf
        exact g_bret (b := true) C E dX5_readOrder_127 (Nat.le_of_ble_eq_true rfl) (Nat.le_of_ble_eq_true rfl) ⟨rfl, rfl⟩
      · refine g_iconst (pc := 91) (v := 0) C dX5_readOrder_91 (by decide) ?_
        obtain rfl := Option.some.inj hf
        exact g_bret (b := false) C E dX5_readOrder_92 (Nat.le_of_ble_eq_true rfl) (Nat.le_of_ble_eq_true rfl) ⟨rfl, rfl⟩
def jX5_readOrder_24 (N : Nat) (v : VM) (s0 : Int32) : Option (VM × Bool) := (if s0 = (98 : Int32) then (jX5_readOrder_60 N v s0 1) else (if s0 = (119 : Int32) then (jX5_readOrder_60 N v s0 1) else (if s0 = (117 : Int32) then (jX5_readOrder_60 N v s0 1) else (if s0 = (104 : Int32) then (jX5_readOrder_60 N v s0 1) else (if s0 = (114 : Int32) then (jX5_readOrder_60 N v s0 1) else (jX5_readOrder_60 N v s0 0))))))
set_option maxRecDepth 100000 in
set_option maxHeartbeats 4000000 in
theorem wjX5_readOrder_24 {k : Kt} (C : gC k cX5_readOrder 3 RX5 wsX5_readOrder rmX5_readOrder "readOrder") (N : Nat) (aM : Nat → Nat) (zv : VM) (v : VM) (s0 : Int32) (r : VM × Bool) (hf : jX5_readOrder_24 N v s0 = some r) (E : gE k (wM (kD k) aM zv) (fun rv w => rv = some (.int (b2i r.2)) ∧ w = (wM (kD k) aM r.1)) (fun _ _ => False) 0 0 (some .boolean) []) : gG k (wM (kD k) aM v) [(0, .ref (aM 0))] 0 0 24 [.int s0] := by
  unfold jX5_readOrder_24 at hf
  refine g_istore_n (pc := 24) (lv' := [(1, .int s0), (0, .ref (aM 0))]) C dX5_readOrder_24 (by decide) rfl ?_
  refine g_iload_n (pc := 25) (x := s0) C dX5_readOrder_25 rfl ?_
  refine g_bipush (pc := 26) (v := 98) C dX5_readOrder_26 (by decide) ?_
  refine g_icmp_eq (pc := 28) (tgt := 55) (x := s0) (y := 98) hf C dX5_readOrder_28 (by decide) (fun hf => ?_) (fun hf => ?_)
  · refine g_iconst (pc := 55) (v := 1) C dX5_readOrder_55 (by decide) ?_
    refine g_goto (pc := 56) (tgt := 60) C dX5_readOrder_56 (by decide) ?_
    refine g_lv [1, 0] (lv' := [(0, .ref (aM 0)), (1, .int s0)]) rfl ?_
    exact wjX5_readOrder_60 C N aM zv v s0 1 r hf E
  · refine g_iload_n (pc := 31) (x := s0) C dX5_readOrder_31 rfl ?_
    refine g_bipush (pc := 32) (v := 119) C dX5_readOrder_32 (by decide) ?_
    refine g_icmp_eq (pc := 34) (tgt := 55) (x := s0) (y := 119) hf C dX5_readOrder_34 (by decide) (fun hf => ?_) (fun hf => ?_)
    · refine g_iconst (pc := 55) (v := 1) C dX5_readOrder_55 (by decide) ?_
      refine g_goto (pc := 56) (tgt := 60) C dX5_readOrder_56 (by decide) ?_
      refine g_lv [1, 0] (lv' := [(0, .ref (aM 0)), (1, .int s0)]) rfl ?_
      exact wjX5_readOrder_60 C N aM zv v s0 1 r hf E
    · refine g_iload_n (pc := 37) (x := s0) C dX5_readOrder_37 rfl ?_
      refine g_bipush (pc := 38) (v := 117) C dX5_readOrder_38 (by decide) ?_
      refine g_icmp_eq (pc := 40) (tgt := 55) (x := s0) (y := 117) hf C dX5_readOrder_40 (by decide) (fun hf => ?_) (fun hf => ?_)
      · refine g_iconst (pc := 55) (v := 1) C dX5_readOrder_55 (by decide) ?_
        refine g_goto (pc := 56) (tgt := 60) C dX5_readOrder_56 (by decide) ?_
        refine g_lv [1, 0] (lv' := [(0, .ref (aM 0)), (1, .int s0)]) rfl ?_
        exact wjX5_readOrder_60 C N aM zv v s0 1 r hf E
      · refine g_iload_n (pc := 43) (x := s0) C dX5_readOrder_43 rfl ?_
        refine g_bipush (pc := 44) (v := 104) C dX5_readOrder_44 (by decide) ?_
        refine g_icmp_eq (pc := 46) (tgt := 55) (x := s0) (y := 104) hf C dX5_readOrder_46 (by decide) (fun hf => ?_) (fun hf => ?_)
        · refine g_iconst (pc := 55) (v := 1) C dX5_readOrder_55 (by decide) ?_
          refine g_goto (pc := 56) (tgt := 60) C dX5_readOrder_56 (by decide) ?_
          refine g_lv [1, 0] (lv' := [(0, .ref (aM 0)), (1, .int s0)]) rfl ?_
          exact wjX5_readOrder_60 C N aM zv v s0 1 r hf E
        · refine g_iload_n (pc := 49) (x := s0) C dX5_readOrder_49 rfl ?_
          refine g_bipush (pc := 50) (v := 114) C dX5_readOrder_50 (by decide) ?_
          refine g_icmp_ne (pc := 52) (tgt := 59) (x := s0) (y := 114) hf C dX5_readOrder_52 (by decide) (fun hf => ?_) (fun hf => ?_)
          · refine g_iconst (pc := 59) (v := 0) C dX5_readOrder_59 (by decide) ?_
            refine g_lv [1, 0] (lv' := [(0, .ref (aM 0)), (1, .int s0)]) rfl ?_
            exact wjX5_readOrder_60 C N aM zv v s0 0 r hf E
          · refine g_iconst (pc := 55) (v := 1) C dX5_readOrder_55 (by decide) ?_
            refine g_goto (pc := 56) (tgt := 60) C dX5_readOrder_56 (by decide) ?_
            refine g_lv [1, 0] (lv' := [(0, .ref (aM 0)), (1, .int s0)]) rfl ?_
            exact wjX5_readOrder_60 C N aM zv v s0 1 r hf E
def fX5_readOrder (N : Nat) (v : VM) : Option (VM × Bool) := (if (mLen v) ≤ (mSpt v) then (jX5_readOrder_24 N v 0) else ck (mSpt v) 60 ((jX5_readOrder_24 N v ((mBuf v) (Int32.toNatClampNeg (mSpt v))))))
set_option maxRecDepth 100000 in
set_option maxHeartbeats 4000000 in
theorem wkX5_readOrder {k : Kt} (C : gC k cX5_readOrder 3 RX5 wsX5_readOrder rmX5_readOrder "readOrder") (N : Nat) (aM : Nat → Nat) (v : VM) (r : VM × Bool) (hf : fX5_readOrder N v = some r) (E : gE k (wM (kD k) aM v) (fun rv w => rv = some (.int (b2i r.2)) ∧ w = (wM (kD k) aM r.1)) (fun _ _ => False) 0 0 (some .boolean) []) : gG k (wM (kD k) aM v) [(0, .ref (aM 0))] 0 0 0 [] := by
  unfold fX5_readOrder at hf
  refine g_aload_n (pc := 0) (x := (aM 0)) C dX5_readOrder_0 rfl ?_
  refine g_getf (pc := 1) C 0 rfl rfl inX5_readOrder_X5 10 (by decide) lkX5_readOrder_150 rfl rfl dX5_readOrder_1 ?_
  refine g_aload_n (pc := 4) (x := (aM 0)) C dX5_readOrder_4 rfl ?_
  refine g_getf (pc := 5) C 0 rfl rfl inX5_readOrder_X5 9 (by decide) lkX5_readOrder_147 rfl rfl dX5_readOrder_5 ?_
  refine g_icmp_ge (pc := 8) (tgt := 23) (x := (mSpt v)) (y := (mLen v)) hf C dX5_readOrder_8 (by decide) (fun hf => ?_) (fun hf => ?_)
  · refine g_iconst (pc := 23) (v := 0) C dX5_readOrder_23 (by decide) ?_
    exact wjX5_readOrder_24 C N aM v v 0 r hf E
  · refine g_aload_n (pc := 11) (x := (aM 0)) C dX5_readOrder_11 rfl ?_
    refine g_getf (pc := 12) C 0 rfl rfl inX5_readOrder_X5 8 (by decide) lkX5_readOrder_26 rfl rfl dX5_readOrder_12 ?_
    refine g_aload_n (pc := 15) (x := (aM 0)) C dX5_readOrder_15 rfl ?_
    refine g_getf (pc := 16) C 0 rfl rfl inX5_readOrder_X5 10 (by decide) lkX5_readOrder_150 rfl rfl dX5_readOrder_16 ?_
    refine g_iald (pc := 19) (i := (mSpt v)) hf C 6 rfl dX5_readOrder_19 (fun hf => ?_)
    refine g_goto (pc := 20) (tgt := 24) C dX5_readOrder_20 (by decide) ?_
    exact wjX5_readOrder_24 C N aM v v ((mBuf v) (Int32.toNatClampNeg (mSpt v))) r hf E
set_option maxRecDepth 100000 in
set_option maxHeartbeats 4000000 in
theorem cX5_readOrder_ (l : Launch) (htr : l.stackTraces = false) (D : va_G) (N : Nat) (aM : Nat → Nat) (v : VM) (r : VM × Bool) (hf : fX5_readOrder N v = some r) : Tc l D yX5_readOrder wsX5_readOrder rmX5_readOrder [.ref (aM 0)] (wM D aM v) (fun rv w => rv = some (.int (b2i r.2)) ∧ w = (wM D aM r.1)) (fun _ _ => False) 0 0 := Tc_of htr (by decide +kernel) rfl (Nat.le_of_ble_eq_true rfl) (fun k C E hl hD => by subst hD; exact wkX5_readOrder C N aM v r hf E)
abbrev rmX5_isComplete : Room := { frames := 5, cells := 0, slots := 0, locals := 109 }
theorem inX5_isComplete_X5 : ∀ w ∈ wsX50, w ∈ wsX5_isComplete := by decide +kernel
theorem lkX5_isComplete_150 : Cond.fieldLink RX5 150 "GaugeBlocksModel" (TX5 10).2.1 (TX5 10).2.2.1 ∈ wsX5_isComplete := by decide +kernel
theorem lkX5_isComplete_162 : Cond.fieldLink RX5 162 "GaugeBlocksModel" (TX5 12).2.1 (TX5 12).2.2.1 ∈ wsX5_isComplete := by decide +kernel
theorem lkX5_isComplete_147 : Cond.fieldLink RX5 147 "GaugeBlocksModel" (TX5 9).2.1 (TX5 9).2.2.1 ∈ wsX5_isComplete := by decide +kernel
theorem hdX5_isComplete : yX5_isComplete.cls = RX5 ∧ yX5_isComplete.cls ≠ "java/lang/invoke/MethodHandle" ∧ yX5_isComplete.cls ≠ "java/lang/invoke/VarHandle" ∧ (parseMethodDescriptor yX5_isComplete.desc).map (fun d => d.parameters.length) = some 0 := by decide +kernel
def lX5_isComplete_15 (N : Nat)  : Nat → VM → Int32 → Option ((VM × Int32))
  | 0, _, _ => none
  | n + 1, v, l1 => (if l1 = (0 : Int32) then some (v, l1) else ((fX5_takes N v 59).bind fun r1 => (if r1.2 = true then ((fX5_readOrder N r1.1).bind fun r2 => (lX5_isComplete_15 N n r2.1 (b2i r2.2))) else some (r1.1, l1))))
set_option maxRecDepth 100000 in
set_option maxHeartbeats 4000000 in
theorem wlX5_isComplete_15 {k : Kt} (C : gC k cX5_isComplete 2 RX5 wsX5_isComplete rmX5_isComplete "isComplete") (N : Nat) (aM : Nat → Nat) : ∀ (n : Nat) (v : VM) (l1 : Int32) (u : (VM × Int32)) (hf : lX5_isComplete_15 N n v l1 = some u) (hk0 : gG k (wM (kD k) aM u.1) [(0, .ref (aM 0)), (1, .int u.2)] 0 0 36 []), gG k (wM (kD k) aM v) [(0, .ref (aM 0)), (1, .int l1)] 0 0 15 [] := by
  intro n
  induction n with
  | zero => intro v l1 u hf hk0; rw [lX5_isComplete_15] at hf; cases hf
  | succ n ih =>
    intro v l1 u hf hk0
    rw [lX5_isComplete_15] at hf
    refine g_iload_n (pc := 15) (x := l1) C dX5_isComplete_15 rfl ?_
    refine g_if_eq (pc := 16) (tgt := 36) (x := l1) hf C dX5_isComplete_16 (by decide) (fun hf => ?_) (fun hf => ?_)
    · obtain rfl := Option.some.inj hf
      exact hk0
    · refine g_aload_n (pc := 19) (x := (aM 0)) C dX5_isComplete_19 rfl ?_
      refine g_bipush (pc := 20) (v := 59) C dX5_isComplete_20 (by decide) ?_
      refine g_callW (wr := []) (pc' := 25) (cs' := 0) (sl' := 0) hf C (fun u => some (.int (b2i u.2))) (fun u => (wM (kD k) aM u.1)) (fun u hu => gr_V (rest := []) C (cX5_takes_ (kL k) C.tr (kD k) N aM v 59 u hu) (fun ht => cwV 1 ht gX5_isComplete_X5_takes rfl rfl rfl hdX5_takes ⟨(Nat.le_of_ble_eq_true rfl), (Nat.le_of_ble_eq_true rfl)⟩) 0 rfl rfl [0, 1, 2, 3, 4, 5, 6, 7, 8, 9] rfl (by decide) rfl rfl (Nat.le_of_ble_eq_true rfl) dX5_isComplete_22 ⟨(Nat.le_of_ble_eq_true rfl), (Nat.le_of_ble_eq_true rfl)⟩) [0, 1, 2, 3, 4, 5, 6, 7, 8, 9] [] rfl rfl (by decide) (by decide) [0, 1, 2, 3, 4, 5, 6, 7, 8, 9] (by decide) (ws' := fun u => (wM (kD k) aM u.1)) (fun u => rfl) rfl rfl rfl (fun u => [.int (b2i u.2)]) (fun u => rfl) (fun r1 hf => ?_)
      refine g_ifB_eq (pc := 25) (tgt := 36) (b := r1.2) hf C dX5_isComplete_25 (by decide) (fun hf => ?_) (fun hf => ?_)
      · obtain rfl := Option.some.inj hf
        exact hk0
      · refine g_aload_n (pc := 28) (x := (aM 0)) C dX5_isComplete_28 rfl ?_
        refine g_callW (wr := []) (pc' := 32) (cs' := 0) (sl' := 0) hf C (fun u => some (.int (b2i u.2))) (fun u => (wM (kD k) aM u.1)) (fun u hu => gr_V (rest := []) C (cX5_readOrder_ (kL k) C.tr (kD k) N aM r1.1 u hu) (fun ht => cwV 0 ht gX5_isComplete_X5_readOrder rfl rfl rfl hdX5_readOrder ⟨(Nat.le_of_ble_eq_true rfl), (Nat.le_of_ble_eq_true rfl)⟩) 0 rfl rfl [0, 1, 2, 3, 4, 5, 6, 7, 8, 9] rfl (by decide) rfl rfl (Nat.le_of_ble_eq_true rfl) dX5_isComplete_29 ⟨(Nat.le_of_ble_eq_true rfl), (Nat.le_of_ble_eq_true rfl)⟩) [0, 1, 2, 3, 4, 5, 6, 7, 8, 9] [] rfl rfl (by decide) (by decide) [0, 1, 2, 3, 4, 5, 6, 7, 8, 9] (by decide) (ws' := fun u => (wM (kD k) aM u.1)) (fun u => rfl) rfl rfl rfl (fun u => [.int (b2i u.2)]) (fun u => rfl) (fun r2 hf => ?_)
        refine g_istore_n (pc := 32) (lv' := [(1, .int (b2i r2.2)), (0, .ref (aM 0))]) C dX5_isComplete_32 (by decide) rfl ?_
        refine g_goto (pc := 33) (tgt := 15) C dX5_isComplete_33 (by decide) ?_
        refine g_lv [1, 0] (lv' := [(0, .ref (aM 0)), (1, .int (b2i r2.2))]) rfl ?_
        exact ih r2.1 (b2i r2.2) u hf hk0
def fX5_isComplete (N : Nat) (v : VM) : Option (VM × Bool) := ((fX5_readOrder N ((mRow v), (mSav v), (mSvn v), (mSnp v), (mKep v), (mThr v), (mFre v), (mFrn v), (mBuf v), (mLen v), 0, (mNum v), 0, (mLet v), (mFst v), (mSnd v), (mTok v), (mLft v))).bind fun r1 => ((lX5_isComplete_15 N N r1.1 (b2i r1.2)).bind fun r2 => (if r2.2 = (0 : Int32) then some (r2.1, false) else (if (mSpt r2.1) = (mLen r2.1) then some (r2.1, true) else some (r2.1, false)))))
set_option maxRecDepth 100000 in
set_option maxHeartbeats 4000000 in
theorem wkX5_isComplete {k : Kt} (C : gC k cX5_isComplete 2 RX5 wsX5_isComplete rmX5_isComplete "isComplete") (N : Nat) (aM : Nat → Nat) (v : VM) (r : VM × Bool) (hf : fX5_isComplete N v = some r) (E : gE k (wM (kD k) aM v) (fun rv w => rv = some (.int (b2i r.2)) ∧ w = (wM (kD k) aM r.1)) (fun _ _ => False) 0 0 (some .boolean) []) : gG k (wM (kD k) aM v) [(0, .ref (aM 0))] 0 0 0 [] := by
  unfold fX5_isComplete at hf
  refine g_aload_n (pc := 0) (x := (aM 0)) C dX5_isComplete_0 rfl ?_
  refine g_iconst (pc := 1) (v := 0) C dX5_isComplete_1 (by decide) ?_
  refine g_putf (pc := 2) C 0 rfl rfl inX5_isComplete_X5 tyX5 tyX5_ok nmX5 10 (by decide) lkX5_isComplete_150 rfl rfl pfX5_10 rfl rfl (Nat.le_of_ble_eq_true rfl) dX5_isComplete_2 (ws' := (wM (kD k) aM ((mRow v), (mSav v), (mSvn v), (mSnp v), (mKep v), (mThr v), (mFre v), (mFrn v), (mBuf v), (mLen v), 0, (mNum v), (mOrd v), (mLet v), (mFst v), (mSnd v), (mTok v), (mLft v)))) rfl ?_
  refine g_aload_n (pc := 5) (x := (aM 0)) C dX5_isComplete_5 rfl ?_
  refine g_iconst (pc := 6) (v := 0) C dX5_isComplete_6 (by decide) ?_
  refine g_putf (pc := 7) C 0 rfl rfl inX5_isComplete_X5 tyX5 tyX5_ok nmX5 12 (by decide) lkX5_isComplete_162 rfl rfl pfX5_12 rfl rfl (Nat.le_of_ble_eq_true rfl) dX5_isComplete_7 (ws' := (wM (kD k) aM ((mRow v), (mSav v), (mSvn v), (mSnp v), (mKep v), (mThr v), (mFre v), (mFrn v), (mBuf v), (mLen v), 0, (mNum v), 0, (mLet v), (mFst v), (mSnd v), (mTok v), (mLft v)))) rfl ?_
  refine g_aload_n (pc := 10) (x := (aM 0)) C dX5_isComplete_10 rfl ?_
  refine g_callW (wr := []) (pc' := 14) (cs' := 0) (sl' := 0) hf C (fun u => some (.int (b2i u.2))) (fun u => (wM (kD k) aM u.1)) (fun u hu => gr_V (rest := []) C (cX5_readOrder_ (kL k) C.tr (kD k) N aM ((mRow v), (mSav v), (mSvn v), (mSnp v), (mKep v), (mThr v), (mFre v), (mFrn v), (mBuf v), (mLen v), 0, (mNum v), 0, (mLet v), (mFst v), (mSnd v), (mTok v), (mLft v)) u hu) (fun ht => cwV 0 ht gX5_isComplete_X5_readOrder rfl rfl rfl hdX5_readOrder ⟨(Nat.le_of_ble_eq_true rfl), (Nat.le_of_ble_eq_true rfl)⟩) 0 rfl rfl [0, 1, 2, 3, 4, 5, 6, 7, 8, 9] rfl (by decide) rfl rfl (Nat.le_of_ble_eq_true rfl) dX5_isComplete_11 ⟨(Nat.le_of_ble_eq_true rfl), (Nat.le_of_ble_eq_true rfl)⟩) [0, 1, 2, 3, 4, 5, 6, 7, 8, 9] [] rfl rfl (by decide) (by decide) [0, 1, 2, 3, 4, 5, 6, 7, 8, 9] (by decide) (ws' := fun u => (wM (kD k) aM u.1)) (fun u => rfl) rfl rfl rfl (fun u => [.int (b2i u.2)]) (fun u => rfl) (fun r1 hf => ?_)
  refine g_istore_n (pc := 14) (lv' := [(1, .int (b2i r1.2)), (0, .ref (aM 0))]) C dX5_isComplete_14 (by decide) rfl ?_
  obtain ⟨r2, h2, hf⟩ := bd_e hf
  refine g_lv [1, 0] (lv' := [(0, .ref (aM 0)), (1, .int (b2i r1.2))]) rfl ?_
  refine wlX5_isComplete_15 C N aM N r1.1 (b2i r1.2) r2 h2 ?_
  refine g_iload_n (pc := 36) (x := r2.2) C dX5_isComplete_36 rfl ?_
  refine g_if_eq (pc := 37) (tgt := 55) (x := r2.2) hf C dX5_isComplete_37 (by decide) (fun hf => ?_) (fun hf => ?_)
  · refine g_iconst (pc := 55) (v := 0) C dX5_isComplete_55 (by decide) ?_
    obtain rfl := Option.some.inj hf
    exact g_bret (b := false) C E dX5_isComplete_56 (Nat.le_of_ble_eq_true rfl) (Nat.le_of_ble_eq_true rfl) ⟨rfl, rfl⟩
  · refine g_aload_n (pc := 40) (x := (aM 0)) C dX5_isComplete_40 rfl ?_
    refine g_getf (pc := 41) C 0 rfl rfl inX5_isComplete_X5 10 (by decide) lkX5_isComplete_150 rfl rfl dX5_isComplete_41 ?_
    refine g_aload_n (pc := 44) (x := (aM 0)) C dX5_isComplete_44 rfl ?_
    refine g_getf (pc := 45) C 0 rfl rfl inX5_isComplete_X5 9 (by decide) lkX5_isComplete_147 rfl rfl dX5_isComplete_45 ?_
    refine g_icmp_ne (pc := 48) (tgt := 55) (x := (mSpt r2.1)) (y := (mLen r2.1)) hf C dX5_isComplete_48 (by decide) (fun hf => ?_) (fun hf => ?_)
    · refine g_iconst (pc := 55) (v := 0) C dX5_isComplete_55 (by decide) ?_
      obtain rfl := Option.some.inj hf
      exact g_bret (b := false) C E dX5_isComplete_56 (Nat.le_of_ble_eq_true rfl) (Nat.le_of_ble_eq_true rfl) ⟨rfl, rfl⟩
    · refine g_iconst (pc := 51) (v := 1) C dX5_isComplete_51 (by decide) ?_
      refine g_goto (pc := 52) (tgt := 56) C dX5_isComplete_52 (by decide) ?_
      obtain rfl := Option.some.inj hf
      exact g_bret (b := true) C E dX5_isComplete_56 (Nat.le_of_ble_eq_true rfl) (Nat.le_of_ble_eq_true rfl) ⟨rfl, rfl⟩
set_option maxRecDepth 100000 in
set_option maxHeartbeats 4000000 in
theorem cX5_isComplete_ (l : Launch) (htr : l.stackTraces = false) (D : va_G) (N : Nat) (aM : Nat → Nat) (v : VM) (r : VM × Bool) (hf : fX5_isComplete N v = some r) : Tc l D yX5_isComplete wsX5_isComplete rmX5_isComplete [.ref (aM 0)] (wM D aM v) (fun rv w => rv = some (.int (b2i r.2)) ∧ w = (wM D aM r.1)) (fun _ _ => False) 0 0 := Tc_of htr (by decide +kernel) rfl (Nat.le_of_ble_eq_true rfl) (fun k C E hl hD => by subst hD; exact wkX5_isComplete C N aM v r hf E)
abbrev rmX5_firstError : Room := { frames := 6, cells := 0, slots := 0, locals := 130 }
theorem inX5_firstError_X5 : ∀ w ∈ wsX50, w ∈ wsX5_firstError := by decide +kernel
theorem lkX5_firstError_38 : Cond.fieldLink RX5 38 "GaugeBlocksModel" (TX5 5).2.1 (TX5 5).2.2.1 ∈ wsX5_firstError := by decide +kernel
theorem lkX5_firstError_150 : Cond.fieldLink RX5 150 "GaugeBlocksModel" (TX5 10).2.1 (TX5 10).2.2.1 ∈ wsX5_firstError := by decide +kernel
theorem lkX5_firstError_147 : Cond.fieldLink RX5 147 "GaugeBlocksModel" (TX5 9).2.1 (TX5 9).2.2.1 ∈ wsX5_firstError := by decide +kernel
theorem hdX5_firstError : yX5_firstError.cls = RX5 ∧ yX5_firstError.cls ≠ "java/lang/invoke/MethodHandle" ∧ yX5_firstError.cls ≠ "java/lang/invoke/VarHandle" ∧ (parseMethodDescriptor yX5_firstError.desc).map (fun d => d.parameters.length) = some 0 := by decide +kernel
def fX5_firstError (N : Nat) (v : VM) : Option (VM × Int32) := ((fX5_isComplete N ((mRow v), (mSav v), (mSvn v), (mSnp v), (mKep v), 0, (mFre v), (mFrn v), (mBuf v), (mLen v), (mSpt v), (mNum v), (mOrd v), (mLet v), (mFst v), (mSnd v), (mTok v), (mLft v))).bind fun r1 => (if r1.2 = true then some (r1.1, (mLen r1.1)) else some (r1.1, (mSpt r1.1))))
set_option maxRecDepth 100000 in
set_option maxHeartbeats 4000000 in
theorem wkX5_firstError {k : Kt} (C : gC k cX5_firstError 1 RX5 wsX5_firstError rmX5_firstError "firstError") (N : Nat) (aM : Nat → Nat) (v : VM) (r : VM × Int32) (hf : fX5_firstError N v = some r) (E : gE k (wM (kD k) aM v) (fun rv w => rv = some (.int r.2) ∧ w = (wM (kD k) aM r.1)) (fun _ _ => False) 0 0 (some .int) []) : gG k (wM (kD k) aM v) [(0, .ref (aM 0))] 0 0 0 [] := by
  unfold fX5_firstError at hf
  refine g_aload_n (pc := 0) (x := (aM 0)) C dX5_firstError_0 rfl ?_
  refine g_iconst (pc := 1) (v := 0) C dX5_firstError_1 (by decide) ?_
  refine g_putf (pc := 2) C 0 rfl rfl inX5_firstError_X5 tyX5 tyX5_ok nmX5 5 (by decide) lkX5_firstError_38 rfl rfl pfX5_5 rfl rfl (Nat.le_of_ble_eq_true rfl) dX5_firstError_2 (ws' := (wM (kD k) aM ((mRow v), (mSav v), (mSvn v), (mSnp v), (mKep v), 0, (mFre v), (mFrn v), (mBuf v), (mLen v), (mSpt v), (mNum v), (mOrd v), (mLet v), (mFst v), (mSnd v), (mTok v), (mLft v)))) rfl ?_
  refine g_aload_n (pc := 5) (x := (aM 0)) C dX5_firstError_5 rfl ?_
  refine g_callW (wr := []) (pc' := 9) (cs' := 0) (sl' := 0) hf C (fun u => some (.int (b2i u.2))) (fun u => (wM (kD k) aM u.1)) (fun u hu => gr_V (rest := []) C (cX5_isComplete_ (kL k) C.tr (kD k) N aM ((mRow v), (mSav v), (mSvn v), (mSnp v), (mKep v), 0, (mFre v), (mFrn v), (mBuf v), (mLen v), (mSpt v), (mNum v), (mOrd v), (mLet v), (mFst v), (mSnd v), (mTok v), (mLft v)) u hu) (fun ht => cwV 0 ht gX5_firstError_X5_isComplete rfl rfl rfl hdX5_isComplete ⟨(Nat.le_of_ble_eq_true rfl), (Nat.le_of_ble_eq_true rfl)⟩) 0 rfl rfl [0, 1, 2, 3, 4, 5, 6, 7, 8, 9] rfl (by decide) rfl rfl (Nat.le_of_ble_eq_true rfl) dX5_firstError_6 ⟨(Nat.le_of_ble_eq_true rfl), (Nat.le_of_ble_eq_true rfl)⟩) [0, 1, 2, 3, 4, 5, 6, 7, 8, 9] [] rfl rfl (by decide) (by decide) [0, 1, 2, 3, 4, 5, 6, 7, 8, 9] (by decide) (ws' := fun u => (wM (kD k) aM u.1)) (fun u => rfl) rfl rfl rfl (fun u => [.int (b2i u.2)]) (fun u => rfl) (fun r1 hf => ?_)
  refine g_ifB_eq (pc := 9) (tgt := 19) (b := r1.2) hf C dX5_firstError_9 (by decide) (fun hf => ?_) (fun hf => ?_)
  · refine g_aload_n (pc := 19) (x := (aM 0)) C dX5_firstError_19 rfl ?_
    refine g_getf (pc := 20) C 0 rfl rfl inX5_firstError_X5 10 (by decide) lkX5_firstError_150 rfl rfl dX5_firstError_20 ?_
    obtain rfl := Option.some.inj hf
    exact g_iret (v := (mSpt r1.1)) C E dX5_firstError_23 (Nat.le_of_ble_eq_true rfl) (Nat.le_of_ble_eq_true rfl) ⟨rfl, rfl⟩
  · refine g_aload_n (pc := 12) (x := (aM 0)) C dX5_firstError_12 rfl ?_
    refine g_getf (pc := 13) C 0 rfl rfl inX5_firstError_X5 9 (by decide) lkX5_firstError_147 rfl rfl dX5_firstError_13 ?_
    refine g_goto (pc := 16) (tgt := 23) C dX5_firstError_16 (by decide) ?_
    obtain rfl := Option.some.inj hf
    exact g_iret (v := (mLen r1.1)) C E dX5_firstError_23 (Nat.le_of_ble_eq_true rfl) (Nat.le_of_ble_eq_true rfl) ⟨rfl, rfl⟩
set_option maxRecDepth 100000 in
set_option maxHeartbeats 4000000 in
theorem cX5_firstError_ (l : Launch) (htr : l.stackTraces = false) (D : va_G) (N : Nat) (aM : Nat → Nat) (v : VM) (r : VM × Int32) (hf : fX5_firstError N v = some r) : Tc l D yX5_firstError wsX5_firstError rmX5_firstError [.ref (aM 0)] (wM D aM v) (fun rv w => rv = some (.int r.2) ∧ w = (wM D aM r.1)) (fun _ _ => False) 0 0 := Tc_of htr (by decide +kernel) rfl (Nat.le_of_ble_eq_true rfl) (fun k C E hl hD => by subst hD; exact wkX5_firstError C N aM v r hf E)
abbrev rmX5_isDone : Room := { frames := 5, cells := 0, slots := 0, locals := 110 }
theorem inX5_isDone_X5 : ∀ w ∈ wsX50, w ∈ wsX5_isDone := by decide +kernel
theorem lkX5_isDone_35 : Cond.fieldLink RX5 35 "GaugeBlocksModel" (TX5 15).2.1 (TX5 15).2.2.1 ∈ wsX5_isDone := by decide +kernel
theorem lkX5_isDone_29 : Cond.fieldLink RX5 29 "GaugeBlocksModel" (TX5 13).2.1 (TX5 13).2.2.1 ∈ wsX5_isDone := by decide +kernel
theorem lkX5_isDone_7 : Cond.fieldLink RX5 7 "GaugeBlocksModel" (TX5 0).2.1 (TX5 0).2.2.1 ∈ wsX5_isDone := by decide +kernel
theorem lkX5_isDone_32 : Cond.fieldLink RX5 32 "GaugeBlocksModel" (TX5 14).2.1 (TX5 14).2.2.1 ∈ wsX5_isDone := by decide +kernel
theorem hdX5_isDone : yX5_isDone.cls = RX5 ∧ yX5_isDone.cls ≠ "java/lang/invoke/MethodHandle" ∧ yX5_isDone.cls ≠ "java/lang/invoke/VarHandle" ∧ (parseMethodDescriptor yX5_isDone.desc).map (fun d => d.parameters.length) = some 1 := by decide +kernel
def fX5_isDone (N : Nat) (v : VM) (p1 : Int32) : Option (VM × Bool) := ck p1 24 (ck p1 24 ((if ((mLet v) (Int32.toNatClampNeg p1)) = 98 then ck 8 149 ((if (20 : Int32) ≤ ((mRow v) (Int32.toNatClampNeg 8)) then some (v, false) else ((fX5_addBlock N v ((mSnd v) (Int32.toNatClampNeg p1)) 0).bind fun r1 => (if r1.2 < (0 : Int32) then some (r1.1, false) else some (r1.1, true))))) else (if ((mLet v) (Int32.toNatClampNeg p1)) = 104 then ck p1 24 (((fX5_isBlock N v ((mFst v) (Int32.toNatClampNeg p1))).bind fun r2 => (if r2 = true then ck p1 24 (((fX5_holdNow N v ((mFst v) (Int32.toNatClampNeg p1)) ((mSnd v) (Int32.toNatClampNeg p1))).bind fun r3 => (if r3.2 < (0 : Int32) then some (r3.1, false) else some (r3.1, true)))) else some (v, false)))) else (if ((mLet v) (Int32.toNatClampNeg p1)) = 117 then ((fX5_height N v ((mSnd v) (Int32.toNatClampNeg p1))).bind fun r4 => (if r4 ≤ (0 : Int32) then some (v, false) else ((fX5_takeNow N v ((mSnd v) (Int32.toNatClampNeg p1))).bind fun r5 => (if r5.2 < (0 : Int32) then some (r5.1, false) else some (r5.1, true))))) else (if ((mLet v) (Int32.toNatClampNeg p1)) = 119 then ((fX5_isBlock N v ((mSnd v) (Int32.toNatClampNeg p1))).bind fun r6 => (if r6 = true then ck p1 24 (((fX5_wringNow N v ((mFst v) (Int32.toNatClampNeg p1)) ((mSnd v) (Int32.toNatClampNeg p1))).bind fun r7 => (if r7.2 = (0 : Int32) then some (r7.1, true) else some (r7.1, false)))) else some (v, false))) else ((fX5_restNow N v ((mSnd v) (Int32.toNatClampNeg p1))).bind fun r8 => (if r8.2 < (0 : Int32) then some (r8.1, false) else some (r8.1, true)))))))))
set_option maxRecDepth 100000 in
set_option maxHeartbeats 4000000 in
theorem wkX5_isDone {k : Kt} (C : gC k cX5_isDone 3 RX5 wsX5_isDone rmX5_isDone "isDone") (N : Nat) (aM : Nat → Nat) (v : VM) (p1 : Int32) (r : VM × Bool) (hf : fX5_isDone N v p1 = some r) (E : gE k (wM (kD k) aM v) (fun rv w => rv = some (.int (b2i r.2)) ∧ w = (wM (kD k) aM r.1)) (fun _ _ => False) 0 0 (some .boolean) []) : gG k (wM (kD k) aM v) [(0, .ref (aM 0)), (1, .int p1)] 0 0 0 [] := by
  unfold fX5_isDone at hf
  refine g_aload_n (pc := 0) (x := (aM 0)) C dX5_isDone_0 rfl ?_
  refine g_getf (pc := 1) C 0 rfl rfl inX5_isDone_X5 15 (by decide) lkX5_isDone_35 rfl rfl dX5_isDone_1 ?_
  refine g_iload_n (pc := 4) (x := p1) C dX5_isDone_4 rfl ?_
  refine g_iald (pc := 5) (i := p1) hf C 9 rfl dX5_isDone_5 (fun hf => ?_)
  refine g_istore_n (pc := 6) (lv' := [(2, .int ((mSnd v) (Int32.toNatClampNeg p1))), (0, .ref (aM 0)), (1, .int p1)]) C dX5_isDone_6 (by decide) rfl ?_
  refine g_aload_n (pc := 7) (x := (aM 0)) C dX5_isDone_7 rfl ?_
  refine g_getf (pc := 8) C 0 rfl rfl inX5_isDone_X5 13 (by decide) lkX5_isDone_29 rfl rfl dX5_isDone_8 ?_
  refine g_iload_n (pc := 11) (x := p1) C dX5_isDone_11 rfl ?_
  refine g_iald (pc := 12) (i := p1) hf C 7 rfl dX5_isDone_12 (fun hf => ?_)
  refine g_split hf (fun e hf => ?_) (fun n13_98 hf => ?_)
  · refine g_lsw (pc := 13) (tgt := 56) (off := 43) C dX5_isDone_13 e (by decide) (by decide) (by decide) ?_
    refine g_aload_n (pc := 56) (x := (aM 0)) C dX5_isDone_56 rfl ?_
    refine g_getf (pc := 57) C 0 rfl rfl inX5_isDone_X5 0 (by decide) lkX5_isDone_7 rfl rfl dX5_isDone_57 ?_
    refine g_bipush (pc := 60) (v := 8) C dX5_isDone_60 (by decide) ?_
    refine g_iald (pc := 62) (i := 8) hf C 1 rfl dX5_isDone_62 (fun hf => ?_)
    refine g_bipush (pc := 63) (v := 20) C dX5_isDone_63 (by decide) ?_
    refine g_icmp_ge (pc := 65) (tgt := 81) (x := ((mRow v) (Int32.toNatClampNeg 8))) (y := 20) hf C dX5_isDone_65 (by decide) (fun hf => ?_) (fun hf => ?_)
    · refine g_iconst (pc := 81) (v := 0) C dX5_isDone_81 (by decide) ?_
      obtain rfl := Option.some.inj hf
      exact g_bret (b := false) C E dX5_isDone_82 (Nat.le_of_ble_eq_true rfl) (Nat.le_of_ble_eq_true rfl) ⟨rfl, rfl⟩
    · refine g_aload_n (pc := 68) (x := (aM 0)) C dX5_isDone_68 rfl ?_
      refine g_iload_n (pc := 69) (x := ((mSnd v) (Int32.toNatClampNeg p1))) C dX5_isDone_69 rfl ?_
      refine g_iconst (pc := 70) (v := 0) C dX5_isDone_70 (by decide) ?_
      refine g_callW (wr := []) (pc' := 74) (cs' := 0) (sl' := 0) hf C (fun u => some (.int u.2)) (fun u => (wM (kD k) aM u.1)) (fun u hu => gr_V (rest := []) C (cX5_addBlock_ (kL k) C.tr (kD k) N aM v ((mSnd v) (Int32.toNatClampNeg p1)) 0 u hu) (fun ht => cwV 2 ht gX5_isDone_X5_addBlock rfl rfl rfl hdX5_addBlock ⟨(Nat.le_of_ble_eq_true rfl), (Nat.le_of_ble_eq_true rfl)⟩) 0 rfl rfl [0, 1, 2, 3, 4, 5, 6, 7, 8, 9] rfl (by decide) rfl rfl (Nat.le_of_ble_eq_true rfl) dX5_isDone_71 ⟨(Nat.le_of_ble_eq_true rfl), (Nat.le_of_ble_eq_true rfl)⟩) [0, 1, 2, 3, 4, 5, 6, 7, 8, 9] [] rfl rfl (by decide) (by decide) [0, 1, 2, 3, 4, 5, 6, 7, 8, 9] (by decide) (ws' := fun u => (wM (kD k) aM u.1)) (fun u => rfl) rfl rfl rfl (fun u => [.int u.2]) (fun u => rfl) (fun r1 hf => ?_)
      refine g_if_lt (pc := 74) (tgt := 81) (x := r1.2) hf C dX5_isDone_74 (by decide) (fun hf => ?_) (fun hf => ?_)
      · refine g_iconst (pc := 81) (v := 0) C dX5_isDone_81 (by decide) ?_
        obtain rfl := Option.some.inj hf
        exact g_bret (b := false) C E dX5_isDone_82 (Nat.le_of_ble_eq_true rfl) (Nat.le_of_ble_eq_true rfl) ⟨rfl, rfl⟩
      · refine g_iconst (pc := 77) (v := 1) C dX5_isDone_77 (by decide) ?_
        refine g_goto (pc := 78) (tgt := 82) C dX5_isDone_78 (by decide) ?_
        obtain rfl := Option.some.inj hf
        exact g_bret (b := true) C E dX5_isDone_82 (Nat.le_of_ble_eq_true rfl) (Nat.le_of_ble_eq_true rfl) ⟨rfl, rfl⟩
  refine g_split hf (fun e hf => ?_) (fun n13_104 hf => ?_)
  · refine g_lsw (pc := 13) (tgt := 133) (off := 120) C dX5_isDone_13 e (by decide) (by decide) (by decide) ?_
    refine g_aload_n (pc := 133) (x := (aM 0)) C dX5_isDone_133 rfl ?_
    refine g_aload_n (pc := 134) (x := (aM 0)) C dX5_isDone_134 rfl ?_
    refine g_getf (pc := 135) C 0 rfl rfl inX5_isDone_X5 14 (by decide) lkX5_isDone_32 rfl rfl dX5_isDone_135 ?_
    refine g_iload_n (pc := 138) (x := p1) C dX5_isDone_138 rfl ?_
    refine g_iald (pc := 139) (i := p1) hf C 8 rfl dX5_isDone_139 (fun hf => ?_)
    refine g_callR (pc' := 143) (cs' := 0) (sl' := 0) hf C (fun u => some (.int (b2i u))) (fun u hu => gr_V (rest := []) C (cX5_isBlock_ (kL k) C.tr (kD k) N aM v ((mFst v) (Int32.toNatClampNeg p1)) u hu) (fun ht => cwV 1 ht gX5_isDone_X5_isBlock rfl rfl rfl hdX5_isBlock ⟨(Nat.le_of_ble_eq_true rfl), (Nat.le_of_ble_eq_true rfl)⟩) 0 rfl rfl [0, 1, 2, 3, 4, 5, 6, 7, 8, 9] rfl (by decide) rfl rfl (Nat.le_of_ble_eq_true rfl) dX5_isDone_140 ⟨(Nat.le_of_ble_eq_true rfl), (Nat.le_of_ble_eq_true rfl)⟩) [0, 1, 2, 3, 4, 5, 6, 7, 8, 9] rfl rfl rfl rfl (fun u => [.int (b2i u)]) (fun u => rfl) (fun r2 hf => ?_)
    refine g_ifB_eq (pc := 143) (tgt := 164) (b := r2) hf C dX5_isDone_143 (by decide) (fun hf => ?_) (fun hf => ?_)
    · refine g_iconst (pc := 164) (v := 0) C dX5_isDone_164 (by decide) ?_
      obtain rfl := Option.some.inj hf
      exact g_bret (b := false) C E dX5_isDone_165 (Nat.le_of_ble_eq_true rfl) (Nat.le_of_ble_eq_true rfl) ⟨rfl, rfl⟩
    · refine g_aload_n (pc := 146) (x := (aM 0)) C dX5_isDone_146 rfl ?_
      refine g_aload_n (pc := 147) (x := (aM 0)) C dX5_isDone_147 rfl ?_
      refine g_getf (pc := 148) C 0 rfl rfl inX5_isDone_X5 14 (by decide) lkX5_isDone_32 rfl rfl dX5_isDone_148 ?_
      refine g_iload_n (pc := 151) (x := p1) C dX5_isDone_151 rfl ?_
      refine g_iald (pc := 152) (i := p1) hf C 8 rfl dX5_isDone_152 (fun hf => ?_)
      refine g_iload_n (pc := 153) (x := ((mSnd v) (Int32.toNatClampNeg p1))) C dX5_isDone_153 rfl ?_
      refine g_callW (wr := []) (pc' := 157) (cs' := 0) (sl' := 0) hf C (fun u => some (.int u.2)) (fun u => (wM (kD k) aM u.1)) (fun u hu => gr_V (rest := []) C (cX5_holdNow_ (kL k) C.tr (kD k) N aM v ((mFst v) (Int32.toNatClampNeg p1)) ((mSnd v) (Int32.toNatClampNeg p1)) u hu) (fun ht => cwV 2 ht gX5_isDone_X5_holdNow rfl rfl rfl hdX5_holdNow ⟨(Nat.le_of_ble_eq_true rfl), (Nat.le_of_ble_eq_true rfl)⟩) 0 rfl rfl [0, 1, 2, 3, 4, 5, 6, 7, 8, 9] rfl (by decide) rfl rfl (Nat.le_of_ble_eq_true rfl) dX5_isDone_154 ⟨(Nat.le_of_ble_eq_true rfl), (Nat.le_of_ble_eq_true rfl)⟩) [0, 1, 2, 3, 4, 5, 6, 7, 8, 9] [] rfl rfl (by decide) (by decide) [0, 1, 2, 3, 4, 5, 6, 7, 8, 9] (by decide) (ws' := fun u => (wM (kD k) aM u.1)) (fun u => rfl) rfl rfl rfl (fun u => [.int u.2]) (fun u => rfl) (fun r3 hf => ?_)
      refine g_if_lt (pc := 157) (tgt := 164) (x := r3.2) hf C dX5_isDone_157 (by decide) (fun hf => ?_) (fun hf => ?_)
      · refine g_iconst (pc := 164) (v := 0) C dX5_isDone_164 (by decide) ?_
        obtain rfl := Option.some.inj hf
        exact g_bret (b := false) C E dX5_isDone_165 (Nat.le_of_ble_eq_true rfl) (Nat.le_of_ble_eq_true rfl) ⟨rfl, rfl⟩
      · refine g_iconst (pc := 160) (v := 1) C dX5_isDone_160 (by decide) ?_
        refine g_goto (pc := 161) (tgt := 165) C dX5_isDone_161 (by decide) ?_
        obtain rfl := Option.some.inj hf
        exact g_bret (b := true) C E dX5_isDone_165 (Nat.le_of_ble_eq_true rfl) (Nat.le_of_ble_eq_true rfl) ⟨rfl, rfl⟩
  refine g_split hf (fun e hf => ?_) (fun n13_117 hf => ?_)
  · refine g_lsw (pc := 13) (tgt := 111) (off := 98) C dX5_isDone_13 e (by decide) (by decide) (by decide) ?_
    refine g_aload_n (pc := 111) (x := (aM 0)) C dX5_isDone_111 rfl ?_
    refine g_iload_n (pc := 112) (x := ((mSnd v) (Int32.toNatClampNeg p1))) C dX5_isDone_112 rfl ?_
    refine g_callR (pc' := 116) (cs' := 0) (sl' := 0) hf C (fun u => some (.int u)) (fun u hu => gr_V (rest := []) C (cX5_height_ (kL k) C.tr (kD k) N aM v ((mSnd v) (Int32.toNatClampNeg p1)) u hu) (fun ht => cwV 1 ht gX5_isDone_X5_height rfl rfl rfl hdX5_height ⟨(Nat.le_of_ble_eq_true rfl), (Nat.le_of_ble_eq_true rfl)⟩) 0 rfl rfl [0, 1, 2, 3, 4, 5, 6, 7, 8, 9] rfl (by decide) rfl rfl (Nat.le_of_ble_eq_true rfl) dX5_isDone_113 ⟨(Nat.le_of_ble_eq_true rfl), (Nat.le_of_ble_eq_true rfl)⟩) [0, 1, 2, 3, 4, 5, 6, 7, 8, 9] rfl rfl rfl rfl (fun u => [.int u]) (fun u => rfl) (fun r4 hf => ?_)
    refine g_if_le (pc := 116) (tgt := 131) (x := r4) hf C dX5_isDone_116 (by decide) (fun hf => ?_) (fun hf => ?_)
    · refine g_iconst (pc := 131) (v := 0) C dX5_isDone_131 (by decide) ?_
      obtain rfl := Option.some.inj hf
      exact g_bret (b := false) C E dX5_isDone_132 (Nat.le_of_ble_eq_true rfl) (Nat.le_of_ble_eq_true rfl) ⟨rfl, rfl⟩
    · refine g_aload_n (pc := 119) (x := (aM 0)) C dX5_isDone_119 rfl ?_
      refine g_iload_n (pc := 120) (x := ((mSnd v) (Int32.toNatClampNeg p1))) C dX5_isDone_120 rfl ?_
      refine g_callW (wr := []) (pc' := 124) (cs' := 0) (sl' := 0) hf C (fun u => some (.int u.2)) (fun u => (wM (kD k) aM u.1)) (fun u hu => gr_V (rest := []) C (cX5_takeNow_ (kL k) C.tr (kD k) N aM v ((mSnd v) (Int32.toNatClampNeg p1)) u hu) (fun ht => cwV 1 ht gX5_isDone_X5_takeNow rfl rfl rfl hdX5_takeNow ⟨(Nat.le_of_ble_eq_true rfl), (Nat.le_of_ble_eq_true rfl)⟩) 0 rfl rfl [0, 1, 2, 3, 4, 5, 6, 7, 8, 9] rfl (by decide) rfl rfl (Nat.le_of_ble_eq_true rfl) dX5_isDone_121 ⟨(Nat.le_of_ble_eq_true rfl), (Nat.le_of_ble_eq_true rfl)⟩) [0, 1, 2, 3, 4, 5, 6, 7, 8, 9] [] rfl rfl (by decide) (by decide) [0, 1, 2, 3, 4, 5, 6, 7, 8, 9] (by decide) (ws' := fun u => (wM (kD k) aM u.1)) (fun u => rfl) rfl rfl rfl (fun u => [.int u.2]) (fun u => rfl) (fun r5 hf => ?_)
      refine g_if_lt (pc := 124) (tgt := 131) (x := r5.2) hf C dX5_isDone_124 (by decide) (fun hf => ?_) (fun hf => ?_)
      · refine g_iconst (pc := 131) (v := 0) C dX5_isDone_131 (by decide) ?_
        obtain rfl := Option.some.inj hf
        exact g_bret (b := false) C E dX5_isDone_132 (Nat.le_of_ble_eq_true rfl) (Nat.le_of_ble_eq_true rfl) ⟨rfl, rfl⟩
      · refine g_iconst (pc := 127) (v := 1) C dX5_isDone_127 (by decide) ?_
        refine g_goto (pc := 128) (tgt := 132) C dX5_isDone_128 (by decide) ?_
        obtain rfl := Option.some.inj hf
        exact g_bret (b := true) C E dX5_isDone_132 (Nat.le_of_ble_eq_true rfl) (Nat.le_of_ble_eq_true rfl) ⟨rfl, rfl⟩
  refine g_split hf (fun e hf => ?_) (fun n13_119 hf => ?_)
  · refine g_lsw (pc := 13) (tgt := 83) (off := 70) C dX5_isDone_13 e (by decide) (by decide) (by decide) ?_
    refine g_aload_n (pc := 83) (x := (aM 0)) C dX5_isDone_83 rfl ?_
    refine g_iload_n (pc := 84) (x := ((mSnd v) (Int32.toNatClampNeg p1))) C dX5_isDone_84 rfl ?_
    refine g_callR (pc' := 88) (cs' := 0) (sl' := 0) hf C (fun u => some (.int (b2i u))) (fun u hu => gr_V (rest := []) C (cX5_isBlock_ (kL k) C.tr (kD k) N aM v ((mSnd v) (Int32.toNatClampNeg p1)) u hu) (fun ht => cwV 1 ht gX5_isDone_X5_isBlock rfl rfl rfl hdX5_isBlock ⟨(Nat.le_of_ble_eq_true rfl), (Nat.le_of_ble_eq_true rfl)⟩) 0 rfl rfl [0, 1, 2, 3, 4, 5, 6, 7, 8, 9] rfl (by decide) rfl rfl (Nat.le_of_ble_eq_true rfl) dX5_isDone_85 ⟨(Nat.le_of_ble_eq_true rfl), (Nat.le_of_ble_eq_true rfl)⟩) [0, 1, 2, 3, 4, 5, 6, 7, 8, 9] rfl rfl rfl rfl (fun u => [.int (b2i u)]) (fun u => rfl) (fun r6 hf => ?_)
    refine g_ifB_eq (pc := 88) (tgt := 109) (b := r6) hf C dX5_isDone_88 (by decide) (fun hf => ?_) (fun hf => ?_)
    · refine g_iconst (pc := 109) (v := 0) C dX5_isDone_109 (by decide) ?_
      obtain rfl := Option.some.inj hf
      exact g_bret (b := false) C E dX5_isDone_110 (Nat.le_of_ble_eq_true rfl) (Nat.le_of_ble_eq_true rfl) ⟨rfl, rfl⟩
    · refine g_aload_n (pc := 91) (x := (aM 0)) C dX5_isDone_91 rfl ?_
      refine g_aload_n (pc := 92) (x := (aM 0)) C dX5_isDone_92 rfl ?_
      refine g_getf (pc := 93) C 0 rfl rfl inX5_isDone_X5 14 (by decide) lkX5_isDone_32 rfl rfl dX5_isDone_93 ?_
      refine g_iload_n (pc := 96) (x := p1) C dX5_isDone_96 rfl ?_
      refine g_iald (pc := 97) (i := p1) hf C 8 rfl dX5_isDone_97 (fun hf => ?_)
      refine g_iload_n (pc := 98) (x := ((mSnd v) (Int32.toNatClampNeg p1))) C dX5_isDone_98 rfl ?_
      refine g_callW (wr := []) (pc' := 102) (cs' := 0) (sl' := 0) hf C (fun u => some (.int u.2)) (fun u => (wM (kD k) aM u.1)) (fun u hu => gr_V (rest := []) C (cX5_wringNow_ (kL k) C.tr (kD k) N aM v ((mFst v) (Int32.toNatClampNeg p1)) ((mSnd v) (Int32.toNatClampNeg p1)) u hu) (fun ht => cwV 2 ht gX5_isDone_X5_wringNow rfl rfl rfl hdX5_wringNow ⟨(Nat.le_of_ble_eq_true rfl), (Nat.le_of_ble_eq_true rfl)⟩) 0 rfl rfl [0, 1, 2, 3, 4, 5, 6, 7, 8, 9] rfl (by decide) rfl rfl (Nat.le_of_ble_eq_true rfl) dX5_isDone_99 ⟨(Nat.le_of_ble_eq_true rfl), (Nat.le_of_ble_eq_true rfl)⟩) [0, 1, 2, 3, 4, 5, 6, 7, 8, 9] [] rfl rfl (by decide) (by decide) [0, 1, 2, 3, 4, 5, 6, 7, 8, 9] (by decide) (ws' := fun u => (wM (kD k) aM u.1)) (fun u => rfl) rfl rfl rfl (fun u => [.int u.2]) (fun u => rfl) (fun r7 hf => ?_)
      refine g_if_ne (pc := 102) (tgt := 109) (x := r7.2) hf C dX5_isDone_102 (by decide) (fun hf => ?_) (fun hf => ?_)
      · refine g_iconst (pc := 109) (v := 0) C dX5_isDone_109 (by decide) ?_
        obtain rfl := Option.some.inj hf
        exact g_bret (b := false) C E dX5_isDone_110 (Nat.le_of_ble_eq_true rfl) (Nat.le_of_ble_eq_true rfl) ⟨rfl, rfl⟩
      · refine g_iconst (pc := 105) (v := 1) C dX5_isDone_105 (by decide) ?_
        refine g_goto (pc := 106) (tgt := 110) C dX5_isDone_106 (by decide) ?_
        obtain rfl := Option.some.inj hf
        exact g_bret (b := true) C E dX5_isDone_110 (Nat.le_of_ble_eq_true rfl) (Nat.le_of_ble_eq_true rfl) ⟨rfl, rfl⟩
  refine g_lswd (pc := 13) (x := ((mLet v) (Int32.toNatClampNeg p1))) (tgt := 166) C dX5_isDone_13 (by have e13_98 : (((mLet v) (Int32.toNatClampNeg p1))).toInt ≠ 98 := fun h => n13_98 (Int32.toInt_inj.mp (h.trans (by decide))); have e13_104 : (((mLet v) (Int32.toNatClampNeg p1))).toInt ≠ 104 := fun h => n13_104 (Int32.toInt_inj.mp (h.trans (by decide))); have e13_117 : (((mLet v) (Int32.toNatClampNeg p1))).toInt ≠ 117 := fun h => n13_117 (Int32.toInt_inj.mp (h.trans (by decide))); have e13_119 : (((mLet v) (Int32.toNatClampNeg p1))).toInt ≠ 119 := fun h => n13_119 (Int32.toInt_inj.mp (h.trans (by decide))); simp [Op.lookupswitch.offset, e13_98, e13_104, e13_117, e13_119, Ne.symm e13_98, Ne.symm e13_104, Ne.symm e13_117, Ne.symm e13_119]) (by decide) ?_
  refine g_aload_n (pc := 166) (x := (aM 0)) C dX5_isDone_166 rfl ?_
  refine g_iload_n (pc := 167) (x := ((mSnd v) (Int32.toNatClampNeg p1))) C dX5_isDone_167 rfl ?_
  refine g_callW (wr := []) (pc' := 171) (cs' := 0) (sl' := 0) hf C (fun u => some (.int u.2)) (fun u => (wM (kD k) aM u.1)) (fun u hu => gr_V (rest := []) C (cX5_restNow_ (kL k) C.tr (kD k) N aM v ((mSnd v) (Int32.toNatClampNeg p1)) u hu) (fun ht => cwV 1 ht gX5_isDone_X5_restNow rfl rfl rfl hdX5_restNow ⟨(Nat.le_of_ble_eq_true rfl), (Nat.le_of_ble_eq_true rfl)⟩) 0 rfl rfl [0, 1, 2, 3, 4, 5, 6, 7, 8, 9] rfl (by decide) rfl rfl (Nat.le_of_ble_eq_true rfl) dX5_isDone_168 ⟨(Nat.le_of_ble_eq_true rfl), (Nat.le_of_ble_eq_true rfl)⟩) [0, 1, 2, 3, 4, 5, 6, 7, 8, 9] [] rfl rfl (by decide) (by decide) [0, 1, 2, 3, 4, 5, 6, 7, 8, 9] (by decide) (ws' := fun u => (wM (kD k) aM u.1)) (fun u => rfl) rfl rfl rfl (fun u => [.int u.2]) (fun u => rfl) (fun r8 hf => ?_)
  refine g_if_lt (pc := 171) (tgt := 178) (x := r8.2) hf C dX5_isDone_171 (by decide) (fun hf => ?_) (fun hf => ?_)
  · refine g_iconst (pc := 178) (v := 0) C dX5_isDone_178 (by decide) ?_
    obtain rfl := Option.some.inj hf
    exact g_bret (b := false) C E dX5_isDone_179 (Nat.le_of_ble_eq_true rfl) (Nat.le_of_ble_eq_true rfl) ⟨rfl, rfl⟩
  · refine g_iconst (pc := 174) (v := 1) C dX5_isDone_174 (by decide) ?_
    refine g_goto (pc := 175) (tgt := 179) C dX5_isDone_175 (by decide) ?_
    obtain rfl := Option.some.inj hf
    exact g_bret (b := true) C E dX5_isDone_179 (Nat.le_of_ble_eq_true rfl) (Nat.le_of_ble_eq_true rfl) ⟨rfl, rfl⟩
set_option maxRecDepth 100000 in
set_option maxHeartbeats 4000000 in
theorem cX5_isDone_ (l : Launch) (htr : l.stackTraces = false) (D : va_G) (N : Nat) (aM : Nat → Nat) (v : VM) (p1 : Int32) (r : VM × Bool) (hf : fX5_isDone N v p1 = some r) : Tc l D yX5_isDone wsX5_isDone rmX5_isDone [.ref (aM 0), .int p1] (wM D aM v) (fun rv w => rv = some (.int (b2i r.2)) ∧ w = (wM D aM r.1)) (fun _ _ => False) 0 0 := Tc_of htr (by decide +kernel) rfl (Nat.le_of_ble_eq_true rfl) (fun k C E hl hD => by subst hD; exact wkX5_isDone C N aM v p1 r hf E)
abbrev rmX5_execute : Room := { frames := 6, cells := 0, slots := 0, locals := 132 }
theorem inX5_execute_X5 : ∀ w ∈ wsX50, w ∈ wsX5_execute := by decide +kernel
theorem lkX5_execute_38 : Cond.fieldLink RX5 38 "GaugeBlocksModel" (TX5 5).2.1 (TX5 5).2.2.1 ∈ wsX5_execute := by decide +kernel
theorem lkX5_execute_162 : Cond.fieldLink RX5 162 "GaugeBlocksModel" (TX5 12).2.1 (TX5 12).2.2.1 ∈ wsX5_execute := by decide +kernel
theorem lkX5_execute_147 : Cond.fieldLink RX5 147 "GaugeBlocksModel" (TX5 9).2.1 (TX5 9).2.2.1 ∈ wsX5_execute := by decide +kernel
theorem hdX5_execute : yX5_execute.cls = RX5 ∧ yX5_execute.cls ≠ "java/lang/invoke/MethodHandle" ∧ yX5_execute.cls ≠ "java/lang/invoke/VarHandle" ∧ (parseMethodDescriptor yX5_execute.desc).map (fun d => d.parameters.length) = some 0 := by decide +kernel
def lX5_execute_24 (N : Nat)  : Nat → VM → Int32 → Option ((VM × Int32))
  | 0, _, _ => none
  | n + 1, v, l1 => (if (mOrd v) ≤ l1 then some (v, l1) else ((fX5_isDone N v l1).bind fun r1 => (if r1.2 = true then (lX5_execute_24 N n r1.1 (l1 + 1)) else some (r1.1, l1))))
set_option maxRecDepth 100000 in
set_option maxHeartbeats 4000000 in
theorem wlX5_execute_24 {k : Kt} (C : gC k cX5_execute 2 RX5 wsX5_execute rmX5_execute "execute") (N : Nat) (aM : Nat → Nat) : ∀ (n : Nat) (v : VM) (l1 : Int32) (u : (VM × Int32)) (hf : lX5_execute_24 N n v l1 = some u) (hk0 : gG k (wM (kD k) aM u.1) [(0, .ref (aM 0)), (1, .int u.2)] 0 0 46 []), gG k (wM (kD k) aM v) [(0, .ref (aM 0)), (1, .int l1)] 0 0 24 [] := by
  intro n
  induction n with
  | zero => intro v l1 u hf hk0; rw [lX5_execute_24] at hf; cases hf
  | succ n ih =>
    intro v l1 u hf hk0
    rw [lX5_execute_24] at hf
    refine g_iload_n (pc := 24) (x := l1) C dX5_execute_24 rfl ?_
    refine g_aload_n (pc := 25) (x := (aM 0)) C dX5_execute_25 rfl ?_
    refine g_getf (pc := 26) C 0 rfl rfl inX5_execute_X5 12 (by decide) lkX5_execute_162 rfl rfl dX5_execute_26 ?_
    refine g_icmp_ge (pc := 29) (tgt := 46) (x := l1) (y := (mOrd v)) hf C dX5_execute_29 (by decide) (fun hf => ?_) (fun hf => ?_)
    · obtain rfl := Option.some.inj hf
      exact hk0
    · refine g_aload_n (pc := 32) (x := (aM 0)) C dX5_execute_32 rfl ?_
      refine g_iload_n (pc := 33) (x := l1) C dX5_execute_33 rfl ?_
      refine g_callW (wr := []) (pc' := 37) (cs' := 0) (sl' := 0) hf C (fun u => some (.int (b2i u.2))) (fun u => (wM (kD k) aM u.1)) (fun u hu => gr_V (rest := []) C (cX5_isDone_ (kL k) C.tr (kD k) N aM v l1 u hu) (fun ht => cwV 1 ht gX5_execute_X5_isDone rfl rfl rfl hdX5_isDone ⟨(Nat.le_of_ble_eq_true rfl), (Nat.le_of_ble_eq_true rfl)⟩) 0 rfl rfl [0, 1, 2, 3, 4, 5, 6, 7, 8, 9] rfl (by decide) rfl rfl (Nat.le_of_ble_eq_true rfl) dX5_execute_34 ⟨(Nat.le_of_ble_eq_true rfl), (Nat.le_of_ble_eq_true rfl)⟩) [0, 1, 2, 3, 4, 5, 6, 7, 8, 9] [] rfl rfl (by decide) (by decide) [0, 1, 2, 3, 4, 5, 6, 7, 8, 9] (by decide) (ws' := fun u => (wM (kD k) aM u.1)) (fun u => rfl) rfl rfl rfl (fun u => [.int (b2i u.2)]) (fun u => rfl) (fun r1 hf => ?_)
      refine g_ifB_eq (pc := 37) (tgt := 46) (b := r1.2) hf C dX5_execute_37 (by decide) (fun hf => ?_) (fun hf => ?_)
      · obtain rfl := Option.some.inj hf
        exact hk0
      · refine g_iinc (pc := 40) (x := l1) (v := (l1 + 1)) (lv' := [(1, .int (l1 + 1)), (0, .ref (aM 0))]) C dX5_execute_40 rfl rfl (by decide) rfl ?_
        refine g_goto (pc := 43) (tgt := 24) C dX5_execute_43 (by decide) ?_
        refine g_lv [1, 0] (lv' := [(0, .ref (aM 0)), (1, .int (l1 + 1))]) rfl ?_
        exact ih r1.1 (l1 + 1) u hf hk0
def fX5_execute (N : Nat) (v : VM) : Option (VM × Int32) := ((fX5_isComplete N ((mRow v), (mSav v), (mSvn v), (mSnp v), (mKep v), 0, (mFre v), (mFrn v), (mBuf v), (mLen v), (mSpt v), (mNum v), (mOrd v), (mLet v), (mFst v), (mSnd v), (mTok v), (mLft v))).bind fun r1 => (if r1.2 = true then ((fX5_save N r1.1).bind fun r2 => ((lX5_execute_24 N N r2 0).bind fun r3 => some (((mRow r3.1), (mSav r3.1), (mSvn r3.1), (mSnp r3.1), (mKep r3.1), (mThr r3.1), (mFre r3.1), (mFrn r3.1), (mBuf r3.1), 0, (mSpt r3.1), (mNum r3.1), (mOrd r3.1), (mLet r3.1), (mFst r3.1), (mSnd r3.1), (mTok r3.1), (mLft r3.1)), r3.2))) else ((fX5_fails N r1.1 1).bind fun r4 => some (r4.1, r4.2))))
set_option maxRecDepth 100000 in
set_option maxHeartbeats 4000000 in
theorem wkX5_execute {k : Kt} (C : gC k cX5_execute 2 RX5 wsX5_execute rmX5_execute "execute") (N : Nat) (aM : Nat → Nat) (v : VM) (r : VM × Int32) (hf : fX5_execute N v = some r) (E : gE k (wM (kD k) aM v) (fun rv w => rv = some (.int r.2) ∧ w = (wM (kD k) aM r.1)) (fun _ _ => False) 0 0 (some .int) []) : gG k (wM (kD k) aM v) [(0, .ref (aM 0))] 0 0 0 [] := by
  unfold fX5_execute at hf
  refine g_aload_n (pc := 0) (x := (aM 0)) C dX5_execute_0 rfl ?_
  refine g_iconst (pc := 1) (v := 0) C dX5_execute_1 (by decide) ?_
  refine g_putf (pc := 2) C 0 rfl rfl inX5_execute_X5 tyX5 tyX5_ok nmX5 5 (by decide) lkX5_execute_38 rfl rfl pfX5_5 rfl rfl (Nat.le_of_ble_eq_true rfl) dX5_execute_2 (ws' := (wM (kD k) aM ((mRow v), (mSav v), (mSvn v), (mSnp v), (mKep v), 0, (mFre v), (mFrn v), (mBuf v), (mLen v), (mSpt v), (mNum v), (mOrd v), (mLet v), (mFst v), (mSnd v), (mTok v), (mLft v)))) rfl ?_
  refine g_aload_n (pc := 5) (x := (aM 0)) C dX5_execute_5 rfl ?_
  refine g_callW (wr := []) (pc' := 9) (cs' := 0) (sl' := 0) hf C (fun u => some (.int (b2i u.2))) (fun u => (wM (kD k) aM u.1)) (fun u hu => gr_V (rest := []) C (cX5_isComplete_ (kL k) C.tr (kD k) N aM ((mRow v), (mSav v), (mSvn v), (mSnp v), (mKep v), 0, (mFre v), (mFrn v), (mBuf v), (mLen v), (mSpt v), (mNum v), (mOrd v), (mLet v), (mFst v), (mSnd v), (mTok v), (mLft v)) u hu) (fun ht => cwV 0 ht gX5_execute_X5_isComplete rfl rfl rfl hdX5_isComplete ⟨(Nat.le_of_ble_eq_true rfl), (Nat.le_of_ble_eq_true rfl)⟩) 0 rfl rfl [0, 1, 2, 3, 4, 5, 6, 7, 8, 9] rfl (by decide) rfl rfl (Nat.le_of_ble_eq_true rfl) dX5_execute_6 ⟨(Nat.le_of_ble_eq_true rfl), (Nat.le_of_ble_eq_true rfl)⟩) [0, 1, 2, 3, 4, 5, 6, 7, 8, 9] [] rfl rfl (by decide) (by decide) [0, 1, 2, 3, 4, 5, 6, 7, 8, 9] (by decide) (ws' := fun u => (wM (kD k) aM u.1)) (fun u => rfl) rfl rfl rfl (fun u => [.int (b2i u.2)]) (fun u => rfl) (fun r1 hf => ?_)
  refine g_ifB_ne (pc := 9) (tgt := 18) (b := r1.2) hf C dX5_execute_9 (by decide) (fun hf => ?_) (fun hf => ?_)
  · refine g_aload_n (pc := 18) (x := (aM 0)) C dX5_execute_18 rfl ?_
    refine g_callW (wr := []) (pc' := 22) (cs' := 0) (sl' := 0) hf C (fun u => none) (fun u => (wM (kD k) aM u)) (fun u hu => gr_V (rest := []) C (cX5_save_ (kL k) C.tr (kD k) N aM r1.1 u hu) (fun ht => cwV 0 ht gX5_execute_X5_save rfl rfl rfl hdX5_save ⟨(Nat.le_of_ble_eq_true rfl), (Nat.le_of_ble_eq_true rfl)⟩) 0 rfl rfl [0, 1, 2, 3, 4, 5, 6, 7, 8, 9] rfl (by decide) rfl rfl (Nat.le_of_ble_eq_true rfl) dX5_execute_19 ⟨(Nat.le_of_ble_eq_true rfl), (Nat.le_of_ble_eq_true rfl)⟩) [0, 1, 2, 3, 4, 5, 6, 7, 8, 9] [] rfl rfl (by decide) (by decide) [0, 1, 2, 3, 4, 5, 6, 7, 8, 9] (by decide) (ws' := fun u => (wM (kD k) aM u)) (fun u => rfl) rfl rfl rfl (fun u => []) (fun u => rfl) (fun r2 hf => ?_)
    refine g_iconst (pc := 22) (v := 0) C dX5_execute_22 (by decide) ?_
    refine g_istore_n (pc := 23) (lv' := [(1, .int 0), (0, .ref (aM 0))]) C dX5_execute_23 (by decide) rfl ?_
    obtain ⟨r3, h3, hf⟩ := bd_e hf
    refine g_lv [1, 0] (lv' := [(0, .ref (aM 0)), (1, .int 0)]) rfl ?_
    refine wlX5_execute_24 C N aM N r2 0 r3 h3 ?_
    refine g_aload_n (pc := 46) (x := (aM 0)) C dX5_execute_46 rfl ?_
    refine g_iconst (pc := 47) (v := 0) C dX5_execute_47 (by decide) ?_
    refine g_putf (pc := 48) C 0 rfl rfl inX5_execute_X5 tyX5 tyX5_ok nmX5 9 (by decide) lkX5_execute_147 rfl rfl pfX5_9 rfl rfl (Nat.le_of_ble_eq_true rfl) dX5_execute_48 (ws' := (wM (kD k) aM ((mRow r3.1), (mSav r3.1), (mSvn r3.1), (mSnp r3.1), (mKep r3.1), (mThr r3.1), (mFre r3.1), (mFrn r3.1), (mBuf r3.1), 0, (mSpt r3.1), (mNum r3.1), (mOrd r3.1), (mLet r3.1), (mFst r3.1), (mSnd r3.1), (mTok r3.1), (mLft r3.1)))) rfl ?_
    refine g_iload_n (pc := 51) (x := r3.2) C dX5_execute_51 rfl ?_
    obtain rfl := Option.some.inj hf
    exact g_iret (v := r3.2) C E dX5_execute_52 (Nat.le_of_ble_eq_true rfl) (Nat.le_of_ble_eq_true rfl) ⟨rfl, rfl⟩
  · refine g_aload_n (pc := 12) (x := (aM 0)) C dX5_execute_12 rfl ?_
    refine g_iconst (pc := 13) (v := 1) C dX5_execute_13 (by decide) ?_
    refine g_callW (wr := []) (pc' := 17) (cs' := 0) (sl' := 0) hf C (fun u => some (.int u.2)) (fun u => (wM (kD k) aM u.1)) (fun u hu => gr_V (rest := []) C (cX5_fails_ (kL k) C.tr (kD k) N aM r1.1 1 u hu) (fun ht => cwV 1 ht gX5_execute_X5_fails rfl rfl rfl hdX5_fails ⟨(Nat.le_of_ble_eq_true rfl), (Nat.le_of_ble_eq_true rfl)⟩) 0 rfl rfl [0, 1, 2, 3, 4, 5, 6, 7, 8, 9] rfl (by decide) rfl rfl (Nat.le_of_ble_eq_true rfl) dX5_execute_14 ⟨(Nat.le_of_ble_eq_true rfl), (Nat.le_of_ble_eq_true rfl)⟩) [0, 1, 2, 3, 4, 5, 6, 7, 8, 9] [] rfl rfl (by decide) (by decide) [0, 1, 2, 3, 4, 5, 6, 7, 8, 9] (by decide) (ws' := fun u => (wM (kD k) aM u.1)) (fun u => rfl) rfl rfl rfl (fun u => [.int u.2]) (fun u => rfl) (fun r4 hf => ?_)
    obtain rfl := Option.some.inj hf
    exact g_iret (v := r4.2) C E dX5_execute_17 (Nat.le_of_ble_eq_true rfl) (Nat.le_of_ble_eq_true rfl) ⟨rfl, rfl⟩
set_option maxRecDepth 100000 in
set_option maxHeartbeats 4000000 in
theorem cX5_execute_ (l : Launch) (htr : l.stackTraces = false) (D : va_G) (N : Nat) (aM : Nat → Nat) (v : VM) (r : VM × Int32) (hf : fX5_execute N v = some r) : Tc l D yX5_execute wsX5_execute rmX5_execute [.ref (aM 0)] (wM D aM v) (fun rv w => rv = some (.int r.2) ∧ w = (wM D aM r.1)) (fun _ _ => False) 0 0 := Tc_of htr (by decide +kernel) rfl (Nat.le_of_ble_eq_true rfl) (fun k C E hl hD => by subst hD; exact wkX5_execute C N aM v r hf E)
abbrev rmX5_ofBlock : Room := { frames := 3, cells := 0, slots := 0, locals := 66 }
theorem hdX5_ofBlock : yX5_ofBlock.cls = RX5 ∧ yX5_ofBlock.cls ≠ "java/lang/invoke/MethodHandle" ∧ yX5_ofBlock.cls ≠ "java/lang/invoke/VarHandle" ∧ (parseMethodDescriptor yX5_ofBlock.desc).map (fun d => d.parameters.length) = some 2 := by decide +kernel
def fX5_ofBlock (N : Nat) (v : VM) (p1 : Int32) (p2 : Int32) : Option (Int32) := (if p2 = 0 then ((fX5_of N v p1 0).bind fun r1 => some r1) else (if p2 = 1 then ((fX5_error N v p1).bind fun r2 => some (r2 + 10000)) else (if p2 = 2 then ((fX5_of N v p1 2).bind fun r3 => some r3) else (if p2 = 3 then ((fX5_of N v p1 3).bind fun r4 => some r4) else (if p2 = 4 then ((fX5_grade N v p1).bind fun r5 => some r5) else (if p2 = 5 then ((fX5_of N v p1 3).bind fun r6 => ((fX5_trueLength N v p1 r6).bind fun r7 => some r7)) else (if p2 = 6 then ((fX5_of N v p1 4).bind fun r8 => some r8) else (if p2 = 7 then ((fX5_of N v p1 5).bind fun r9 => some r9) else ((fX5_of N v p1 6).bind fun r10 => some r10)))))))))
set_option maxRecDepth 100000 in
set_option maxHeartbeats 4000000 in
theorem wkX5_ofBlock {k : Kt} (C : gC k cX5_ofBlock 3 RX5 wsX5_ofBlock rmX5_ofBlock "ofBlock") (N : Nat) (aM : Nat → Nat) (v : VM) (p1 : Int32) (p2 : Int32) (r : Int32) (hf : fX5_ofBlock N v p1 p2 = some r) (E : gE k (wM (kD k) aM v) (fun rv w => rv = some (.int r) ∧ w = (wM (kD k) aM v)) (fun _ _ => False) 0 0 (some .int) []) : gG k (wM (kD k) aM v) [(0, .ref (aM 0)), (1, .int p1), (2, .int p2)] 0 0 0 [] := by
  unfold fX5_ofBlock at hf
  refine g_iload_n (pc := 0) (x := p2) C dX5_ofBlock_0 rfl ?_
  refine g_split hf (fun e hf => ?_) (fun n1_0 hf => ?_)
  · refine g_tsw (pc := 1) (tgt := 48) C dX5_ofBlock_1 e (by decide) (by decide) rfl (by decide) ?_
    refine g_aload_n (pc := 48) (x := (aM 0)) C dX5_ofBlock_48 rfl ?_
    refine g_iload_n (pc := 49) (x := p1) C dX5_ofBlock_49 rfl ?_
    refine g_iconst (pc := 50) (v := 0) C dX5_ofBlock_50 (by decide) ?_
    refine g_callR (pc' := 54) (cs' := 0) (sl' := 0) hf C (fun u => some (.int u)) (fun u hu => gr_V (rest := []) C (cX5_of_ (kL k) C.tr (kD k) N aM v p1 0 u hu) (fun ht => cwV 2 ht gX5_ofBlock_X5_of rfl rfl rfl hdX5_of ⟨(Nat.le_of_ble_eq_true rfl), (Nat.le_of_ble_eq_true rfl)⟩) 0 rfl rfl [0, 1, 2, 3, 4, 5, 6, 7, 8, 9] rfl (by decide) rfl rfl (Nat.le_of_ble_eq_true rfl) dX5_ofBlock_51 ⟨(Nat.le_of_ble_eq_true rfl), (Nat.le_of_ble_eq_true rfl)⟩) [0, 1, 2, 3, 4, 5, 6, 7, 8, 9] rfl rfl rfl rfl (fun u => [.int u]) (fun u => rfl) (fun r1 hf => ?_)
    obtain rfl := Option.some.inj hf
    exact g_iret (v := r1) C E dX5_ofBlock_54 (Nat.le_of_ble_eq_true rfl) (Nat.le_of_ble_eq_true rfl) ⟨rfl, rfl⟩
  refine g_split hf (fun e hf => ?_) (fun n1_1 hf => ?_)
  · refine g_tsw (pc := 1) (tgt := 55) C dX5_ofBlock_1 e (by decide) (by decide) rfl (by decide) ?_
    refine g_aload_n (pc := 55) (x := (aM 0)) C dX5_ofBlock_55 rfl ?_
    refine g_iload_n (pc := 56) (x := p1) C dX5_ofBlock_56 rfl ?_
    refine g_callR (pc' := 60) (cs' := 0) (sl' := 0) hf C (fun u => some (.int u)) (fun u hu => gr_V (rest := []) C (cX5_error_ (kL k) C.tr (kD k) N aM v p1 u hu) (fun ht => cwV 1 ht gX5_ofBlock_X5_error rfl rfl rfl hdX5_error ⟨(Nat.le_of_ble_eq_true rfl), (Nat.le_of_ble_eq_true rfl)⟩) 0 rfl rfl [0, 1, 2, 3, 4, 5, 6, 7, 8, 9] rfl (by decide) rfl rfl (Nat.le_of_ble_eq_true rfl) dX5_ofBlock_57 ⟨(Nat.le_of_ble_eq_true rfl), (Nat.le_of_ble_eq_true rfl)⟩) [0, 1, 2, 3, 4, 5, 6, 7, 8, 9] rfl rfl rfl rfl (fun u => [.int u]) (fun u => rfl) (fun r2 hf => ?_)
    refine g_sipush (pc := 60) (v := 10000) C dX5_ofBlock_60 (by decide) ?_
    refine g_iadd (pc := 63) (x := r2) (y := 10000) C dX5_ofBlock_63 ?_
    obtain rfl := Option.some.inj hf
    exact g_iret (v := (r2 + 10000)) C E dX5_ofBlock_64 (Nat.le_of_ble_eq_true rfl) (Nat.le_of_ble_eq_true rfl) ⟨rfl, rfl⟩
  refine g_split hf (fun e hf => ?_) (fun n1_2 hf => ?_)
  · refine g_tsw (pc := 1) (tgt := 65) C dX5_ofBlock_1 e (by decide) (by decide) rfl (by decide) ?_
    refine g_aload_n (pc := 65) (x := (aM 0)) C dX5_ofBlock_65 rfl ?_
    refine g_iload_n (pc := 66) (x := p1) C dX5_ofBlock_66 rfl ?_
    refine g_iconst (pc := 67) (v := 2) C dX5_ofBlock_67 (by decide) ?_
    refine g_callR (pc' := 71) (cs' := 0) (sl' := 0) hf C (fun u => some (.int u)) (fun u hu => gr_V (rest := []) C (cX5_of_ (kL k) C.tr (kD k) N aM v p1 2 u hu) (fun ht => cwV 2 ht gX5_ofBlock_X5_of rfl rfl rfl hdX5_of ⟨(Nat.le_of_ble_eq_true rfl), (Nat.le_of_ble_eq_true rfl)⟩) 0 rfl rfl [0, 1, 2, 3, 4, 5, 6, 7, 8, 9] rfl (by decide) rfl rfl (Nat.le_of_ble_eq_true rfl) dX5_ofBlock_68 ⟨(Nat.le_of_ble_eq_true rfl), (Nat.le_of_ble_eq_true rfl)⟩) [0, 1, 2, 3, 4, 5, 6, 7, 8, 9] rfl rfl rfl rfl (fun u => [.int u]) (fun u => rfl) (fun r3 hf => ?_)
    obtain rfl := Option.some.inj hf
    exact g_iret (v := r3) C E dX5_ofBlock_71 (Nat.le_of_ble_eq_true rfl) (Nat.le_of_ble_eq_true rfl) ⟨rfl, rfl⟩
  refine g_split hf (fun e hf => ?_) (fun n1_3 hf => ?_)
  · refine g_tsw (pc := 1) (tgt := 72) C dX5_ofBlock_1 e (by decide) (by decide) rfl (by decide) ?_
    refine g_aload_n (pc := 72) (x := (aM 0)) C dX5_ofBlock_72 rfl ?_
    refine g_iload_n (pc := 73) (x := p1) C dX5_ofBlock_73 rfl ?_
    refine g_iconst (pc := 74) (v := 3) C dX5_ofBlock_74 (by decide) ?_
    refine g_callR (pc' := 78) (cs' := 0) (sl' := 0) hf C (fun u => some (.int u)) (fun u hu => gr_V (rest := []) C (cX5_of_ (kL k) C.tr (kD k) N aM v p1 3 u hu) (fun ht => cwV 2 ht gX5_ofBlock_X5_of rfl rfl rfl hdX5_of ⟨(Nat.le_of_ble_eq_true rfl), (Nat.le_of_ble_eq_true rfl)⟩) 0 rfl rfl [0, 1, 2, 3, 4, 5, 6, 7, 8, 9] rfl (by decide) rfl rfl (Nat.le_of_ble_eq_true rfl) dX5_ofBlock_75 ⟨(Nat.le_of_ble_eq_true rfl), (Nat.le_of_ble_eq_true rfl)⟩) [0, 1, 2, 3, 4, 5, 6, 7, 8, 9] rfl rfl rfl rfl (fun u => [.int u]) (fun u => rfl) (fun r4 hf => ?_)
    obtain rfl := Option.some.inj hf
    exact g_iret (v := r4) C E dX5_ofBlock_78 (Nat.le_of_ble_eq_true rfl) (Nat.le_of_ble_eq_true rfl) ⟨rfl, rfl⟩
  refine g_split hf (fun e hf => ?_) (fun n1_4 hf => ?_)
  · refine g_tsw (pc := 1) (tgt := 79) C dX5_ofBlock_1 e (by decide) (by decide) rfl (by decide) ?_
    refine g_aload_n (pc := 79) (x := (aM 0)) C dX5_ofBlock_79 rfl ?_
    refine g_iload_n (pc := 80) (x := p1) C dX5_ofBlock_80 rfl ?_
    refine g_callR (pc' := 84) (cs' := 0) (sl' := 0) hf C (fun u => some (.int u)) (fun u hu => gr_V (rest := []) C (cX5_grade_ (kL k) C.tr (kD k) N aM v p1 u hu) (fun ht => cwV 1 ht gX5_ofBlock_X5_grade rfl rfl rfl hdX5_grade ⟨(Nat.le_of_ble_eq_true rfl), (Nat.le_of_ble_eq_true rfl)⟩) 0 rfl rfl [0, 1, 2, 3, 4, 5, 6, 7, 8, 9] rfl (by decide) rfl rfl (Nat.le_of_ble_eq_true rfl) dX5_ofBlock_81 ⟨(Nat.le_of_ble_eq_true rfl), (Nat.le_of_ble_eq_true rfl)⟩) [0, 1, 2, 3, 4, 5, 6, 7, 8, 9] rfl rfl rfl rfl (fun u => [.int u]) (fun u => rfl) (fun r5 hf => ?_)
    obtain rfl := Option.some.inj hf
    exact g_iret (v := r5) C E dX5_ofBlock_84 (Nat.le_of_ble_eq_true rfl) (Nat.le_of_ble_eq_true rfl) ⟨rfl, rfl⟩
  refine g_split hf (fun e hf => ?_) (fun n1_5 hf => ?_)
  · refine g_tsw (pc := 1) (tgt := 85) C dX5_ofBlock_1 e (by decide) (by decide) rfl (by decide) ?_
    refine g_aload_n (pc := 85) (x := (aM 0)) C dX5_ofBlock_85 rfl ?_
    refine g_iload_n (pc := 86) (x := p1) C dX5_ofBlock_86 rfl ?_
    refine g_aload_n (pc := 87) (x := (aM 0)) C dX5_ofBlock_87 rfl ?_
    refine g_iload_n (pc := 88) (x := p1) C dX5_ofBlock_88 rfl ?_
    refine g_iconst (pc := 89) (v := 3) C dX5_ofBlock_89 (by decide) ?_
    refine g_callR (pc' := 93) (cs' := 0) (sl' := 0) hf C (fun u => some (.int u)) (fun u hu => gr_V (rest := [.int p1, .ref (aM 0)]) C (cX5_of_ (kL k) C.tr (kD k) N aM v p1 3 u hu) (fun ht => cwV 2 ht gX5_ofBlock_X5_of rfl rfl rfl hdX5_of ⟨(Nat.le_of_ble_eq_true rfl), (Nat.le_of_ble_eq_true rfl)⟩) 0 rfl rfl [0, 1, 2, 3, 4, 5, 6, 7, 8, 9] rfl (by decide) rfl rfl (Nat.le_of_ble_eq_true rfl) dX5_ofBlock_90 ⟨(Nat.le_of_ble_eq_true rfl), (Nat.le_of_ble_eq_true rfl)⟩) [0, 1, 2, 3, 4, 5, 6, 7, 8, 9] rfl rfl rfl rfl (fun u => [.int u, .int p1, .ref (aM 0)]) (fun u => rfl) (fun r6 hf => ?_)
    refine g_callR (pc' := 96) (cs' := 0) (sl' := 0) hf C (fun u => some (.int u)) (fun u hu => gr_V (rest := []) C (cX5_trueLength_ (kL k) C.tr (kD k) N aM v p1 r6 u hu) (fun ht => cwV 2 ht gX5_ofBlock_X5_trueLength rfl rfl rfl hdX5_trueLength ⟨(Nat.le_of_ble_eq_true rfl), (Nat.le_of_ble_eq_true rfl)⟩) 0 rfl rfl [0, 1, 2, 3, 4, 5, 6, 7, 8, 9] rfl (by decide) rfl rfl (Nat.le_of_ble_eq_true rfl) dX5_ofBlock_93 ⟨(Nat.le_of_ble_eq_true rfl), (Nat.le_of_ble_eq_true rfl)⟩) [0, 1, 2, 3, 4, 5, 6, 7, 8, 9] rfl rfl rfl rfl (fun u => [.int u]) (fun u => rfl) (fun r7 hf => ?_)
    obtain rfl := Option.some.inj hf
    exact g_iret (v := r7) C E dX5_ofBlock_96 (Nat.le_of_ble_eq_true rfl) (Nat.le_of_ble_eq_true rfl) ⟨rfl, rfl⟩
  refine g_split hf (fun e hf => ?_) (fun n1_6 hf => ?_)
  · refine g_tsw (pc := 1) (tgt := 97) C dX5_ofBlock_1 e (by decide) (by decide) rfl (by decide) ?_
    refine g_aload_n (pc := 97) (x := (aM 0)) C dX5_ofBlock_97 rfl ?_
    refine g_iload_n (pc := 98) (x := p1) C dX5_ofBlock_98 rfl ?_
    refine g_iconst (pc := 99) (v := 4) C dX5_ofBlock_99 (by decide) ?_
    refine g_callR (pc' := 103) (cs' := 0) (sl' := 0) hf C (fun u => some (.int u)) (fun u hu => gr_V (rest := []) C (cX5_of_ (kL k) C.tr (kD k) N aM v p1 4 u hu) (fun ht => cwV 2 ht gX5_ofBlock_X5_of rfl rfl rfl hdX5_of ⟨(Nat.le_of_ble_eq_true rfl), (Nat.le_of_ble_eq_true rfl)⟩) 0 rfl rfl [0, 1, 2, 3, 4, 5, 6, 7, 8, 9] rfl (by decide) rfl rfl (Nat.le_of_ble_eq_true rfl) dX5_ofBlock_100 ⟨(Nat.le_of_ble_eq_true rfl), (Nat.le_of_ble_eq_true rfl)⟩) [0, 1, 2, 3, 4, 5, 6, 7, 8, 9] rfl rfl rfl rfl (fun u => [.int u]) (fun u => rfl) (fun r8 hf => ?_)
    obtain rfl := Option.some.inj hf
    exact g_iret (v := r8) C E dX5_ofBlock_103 (Nat.le_of_ble_eq_true rfl) (Nat.le_of_ble_eq_true rfl) ⟨rfl, rfl⟩
  refine g_split hf (fun e hf => ?_) (fun n1_7 hf => ?_)
  · refine g_tsw (pc := 1) (tgt := 104) C dX5_ofBlock_1 e (by decide) (by decide) rfl (by decide) ?_
    refine g_aload_n (pc := 104) (x := (aM 0)) C dX5_ofBlock_104 rfl ?_
    refine g_iload_n (pc := 105) (x := p1) C dX5_ofBlock_105 rfl ?_
    refine g_iconst (pc := 106) (v := 5) C dX5_ofBlock_106 (by decide) ?_
    refine g_callR (pc' := 110) (cs' := 0) (sl' := 0) hf C (fun u => some (.int u)) (fun u hu => gr_V (rest := []) C (cX5_of_ (kL k) C.tr (kD k) N aM v p1 5 u hu) (fun ht => cwV 2 ht gX5_ofBlock_X5_of rfl rfl rfl hdX5_of ⟨(Nat.le_of_ble_eq_true rfl), (Nat.le_of_ble_eq_true rfl)⟩) 0 rfl rfl [0, 1, 2, 3, 4, 5, 6, 7, 8, 9] rfl (by decide) rfl rfl (Nat.le_of_ble_eq_true rfl) dX5_ofBlock_107 ⟨(Nat.le_of_ble_eq_true rfl), (Nat.le_of_ble_eq_true rfl)⟩) [0, 1, 2, 3, 4, 5, 6, 7, 8, 9] rfl rfl rfl rfl (fun u => [.int u]) (fun u => rfl) (fun r9 hf => ?_)
    obtain rfl := Option.some.inj hf
    exact g_iret (v := r9) C E dX5_ofBlock_110 (Nat.le_of_ble_eq_true rfl) (Nat.le_of_ble_eq_true rfl) ⟨rfl, rfl⟩
  refine g_tswd (pc := 1) (x := p2) (tgt := 111) C dX5_ofBlock_1 (by have e1_0 : (p2).toInt ≠ 0 := fun h => n1_0 (Int32.toInt_inj.mp (h.trans (by decide))); have e1_1 : (p2).toInt ≠ 1 := fun h => n1_1 (Int32.toInt_inj.mp (h.trans (by decide))); have e1_2 : (p2).toInt ≠ 2 := fun h => n1_2 (Int32.toInt_inj.mp (h.trans (by decide))); have e1_3 : (p2).toInt ≠ 3 := fun h => n1_3 (Int32.toInt_inj.mp (h.trans (by decide))); have e1_4 : (p2).toInt ≠ 4 := fun h => n1_4 (Int32.toInt_inj.mp (h.trans (by decide))); have e1_5 : (p2).toInt ≠ 5 := fun h => n1_5 (Int32.toInt_inj.mp (h.trans (by decide))); have e1_6 : (p2).toInt ≠ 6 := fun h => n1_6 (Int32.toInt_inj.mp (h.trans (by decide))); have e1_7 : (p2).toInt ≠ 7 := fun h => n1_7 (Int32.toInt_inj.mp (h.trans (by decide))); omega) (by decide) ?_
  refine g_aload_n (pc := 111) (x := (aM 0)) C dX5_ofBlock_111 rfl ?_
  refine g_iload_n (pc := 112) (x := p1) C dX5_ofBlock_112 rfl ?_
  refine g_bipush (pc := 113) (v := 6) C dX5_ofBlock_113 (by decide) ?_
  refine g_callR (pc' := 118) (cs' := 0) (sl' := 0) hf C (fun u => some (.int u)) (fun u hu => gr_V (rest := []) C (cX5_of_ (kL k) C.tr (kD k) N aM v p1 6 u hu) (fun ht => cwV 2 ht gX5_ofBlock_X5_of rfl rfl rfl hdX5_of ⟨(Nat.le_of_ble_eq_true rfl), (Nat.le_of_ble_eq_true rfl)⟩) 0 rfl rfl [0, 1, 2, 3, 4, 5, 6, 7, 8, 9] rfl (by decide) rfl rfl (Nat.le_of_ble_eq_true rfl) dX5_ofBlock_115 ⟨(Nat.le_of_ble_eq_true rfl), (Nat.le_of_ble_eq_true rfl)⟩) [0, 1, 2, 3, 4, 5, 6, 7, 8, 9] rfl rfl rfl rfl (fun u => [.int u]) (fun u => rfl) (fun r10 hf => ?_)
  obtain rfl := Option.some.inj hf
  exact g_iret (v := r10) C E dX5_ofBlock_118 (Nat.le_of_ble_eq_true rfl) (Nat.le_of_ble_eq_true rfl) ⟨rfl, rfl⟩
set_option maxRecDepth 100000 in
set_option maxHeartbeats 4000000 in
theorem cX5_ofBlock_ (l : Launch) (htr : l.stackTraces = false) (D : va_G) (N : Nat) (aM : Nat → Nat) (v : VM) (p1 : Int32) (p2 : Int32) (r : Int32) (hf : fX5_ofBlock N v p1 p2 = some r) : Tc l D yX5_ofBlock wsX5_ofBlock rmX5_ofBlock [.ref (aM 0), .int p1, .int p2] (wM D aM v) (fun rv w => rv = some (.int r) ∧ w = (wM D aM v)) (fun _ _ => False) 0 0 := Tc_of htr (by decide +kernel) rfl (Nat.le_of_ble_eq_true rfl) (fun k C E hl hD => by subst hD; exact wkX5_ofBlock C N aM v p1 p2 r hf E)
abbrev rmX5_blockOf : Room := { frames := 4, cells := 0, slots := 0, locals := 88 }
theorem inX5_blockOf_X5 : ∀ w ∈ wsX50, w ∈ wsX5_blockOf := by decide +kernel
theorem lkX5_blockOf_38 : Cond.fieldLink RX5 38 "GaugeBlocksModel" (TX5 5).2.1 (TX5 5).2.2.1 ∈ wsX5_blockOf := by decide +kernel
theorem hdX5_blockOf : yX5_blockOf.cls = RX5 ∧ yX5_blockOf.cls ≠ "java/lang/invoke/MethodHandle" ∧ yX5_blockOf.cls ≠ "java/lang/invoke/VarHandle" ∧ (parseMethodDescriptor yX5_blockOf.desc).map (fun d => d.parameters.length) = some 2 := by decide +kernel
def fX5_blockOf (N : Nat) (v : VM) (p1 : Int32) (p2 : Int32) : Option (VM × Int32) := ((fX5_isBlock N ((mRow v), (mSav v), (mSvn v), (mSnp v), (mKep v), 0, (mFre v), (mFrn v), (mBuf v), (mLen v), (mSpt v), (mNum v), (mOrd v), (mLet v), (mFst v), (mSnd v), (mTok v), (mLft v)) p1).bind fun r1 => (if r1 = true then ((fX5_in N p2 0 8).bind fun r2 => (if r2 = true then ((fX5_ofBlock N ((mRow v), (mSav v), (mSvn v), (mSnp v), (mKep v), 0, (mFre v), (mFrn v), (mBuf v), (mLen v), (mSpt v), (mNum v), (mOrd v), (mLet v), (mFst v), (mSnd v), (mTok v), (mLft v)) p1 p2).bind fun r4 => some (((mRow v), (mSav v), (mSvn v), (mSnp v), (mKep v), 0, (mFre v), (mFrn v), (mBuf v), (mLen v), (mSpt v), (mNum v), (mOrd v), (mLet v), (mFst v), (mSnd v), (mTok v), (mLft v)), r4)) else ((fX5_fails N ((mRow v), (mSav v), (mSvn v), (mSnp v), (mKep v), 0, (mFre v), (mFrn v), (mBuf v), (mLen v), (mSpt v), (mNum v), (mOrd v), (mLet v), (mFst v), (mSnd v), (mTok v), (mLft v)) 2).bind fun r3 => some (r3.1, r3.2)))) else ((fX5_fails N ((mRow v), (mSav v), (mSvn v), (mSnp v), (mKep v), 0, (mFre v), (mFrn v), (mBuf v), (mLen v), (mSpt v), (mNum v), (mOrd v), (mLet v), (mFst v), (mSnd v), (mTok v), (mLft v)) 1).bind fun r5 => some (r5.1, r5.2))))
set_option maxRecDepth 100000 in
set_option maxHeartbeats 4000000 in
theorem wkX5_blockOf {k : Kt} (C : gC k cX5_blockOf 3 RX5 wsX5_blockOf rmX5_blockOf "blockOf") (N : Nat) (aM : Nat → Nat) (v : VM) (p1 : Int32) (p2 : Int32) (r : VM × Int32) (hf : fX5_blockOf N v p1 p2 = some r) (E : gE k (wM (kD k) aM v) (fun rv w => rv = some (.int r.2) ∧ w = (wM (kD k) aM r.1)) (fun _ _ => False) 0 0 (some .int) []) : gG k (wM (kD k) aM v) [(0, .ref (aM 0)), (1, .int p1), (2, .int p2)] 0 0 0 [] := by
  unfold fX5_blockOf at hf
  refine g_aload_n (pc := 0) (x := (aM 0)) C dX5_blockOf_0 rfl ?_
  refine g_iconst (pc := 1) (v := 0) C dX5_blockOf_1 (by decide) ?_
  refine g_putf (pc := 2) C 0 rfl rfl inX5_blockOf_X5 tyX5 tyX5_ok nmX5 5 (by decide) lkX5_blockOf_38 rfl rfl pfX5_5 rfl rfl (Nat.le_of_ble_eq_true rfl) dX5_blockOf_2 (ws' := (wM (kD k) aM ((mRow v), (mSav v), (mSvn v), (mSnp v), (mKep v), 0, (mFre v), (mFrn v), (mBuf v), (mLen v), (mSpt v), (mNum v), (mOrd v), (mLet v), (mFst v), (mSnd v), (mTok v), (mLft v)))) rfl ?_
  refine g_aload_n (pc := 5) (x := (aM 0)) C dX5_blockOf_5 rfl ?_
  refine g_iload_n (pc := 6) (x := p1) C dX5_blockOf_6 rfl ?_
  refine g_callR (pc' := 10) (cs' := 0) (sl' := 0) hf C (fun u => some (.int (b2i u))) (fun u hu => gr_V (rest := []) C (cX5_isBlock_ (kL k) C.tr (kD k) N aM ((mRow v), (mSav v), (mSvn v), (mSnp v), (mKep v), 0, (mFre v), (mFrn v), (mBuf v), (mLen v), (mSpt v), (mNum v), (mOrd v), (mLet v), (mFst v), (mSnd v), (mTok v), (mLft v)) p1 u hu) (fun ht => cwV 1 ht gX5_blockOf_X5_isBlock rfl rfl rfl hdX5_isBlock ⟨(Nat.le_of_ble_eq_true rfl), (Nat.le_of_ble_eq_true rfl)⟩) 0 rfl rfl [0, 1, 2, 3, 4, 5, 6, 7, 8, 9] rfl (by decide) rfl rfl (Nat.le_of_ble_eq_true rfl) dX5_blockOf_7 ⟨(Nat.le_of_ble_eq_true rfl), (Nat.le_of_ble_eq_true rfl)⟩) [0, 1, 2, 3, 4, 5, 6, 7, 8, 9] rfl rfl rfl rfl (fun u => [.int (b2i u)]) (fun u => rfl) (fun r1 hf => ?_)
  refine g_ifB_ne (pc := 10) (tgt := 19) (b := r1) hf C dX5_blockOf_10 (by decide) (fun hf => ?_) (fun hf => ?_)
  · refine g_iload_n (pc := 19) (x := p2) C dX5_blockOf_19 rfl ?_
    refine g_iconst (pc := 20) (v := 0) C dX5_blockOf_20 (by decide) ?_
    refine g_bipush (pc := 21) (v := 8) C dX5_blockOf_21 (by decide) ?_
    refine g_callR (pc' := 26) (cs' := 0) (sl' := 0) hf C (fun u => some (.int (b2i u))) (fun u hu => gr_S (rest := []) C (cX5_in_ (kL k) C.tr (kD k) N p2 0 8 u hu) (fun ht => va_cwS 3 ht gX5_blockOf_X5_in rfl rfl rfl hsX5_in ⟨(Nat.le_of_ble_eq_true rfl), (Nat.le_of_ble_eq_true rfl)⟩) [] rfl (by decide) rfl rfl (Nat.le_of_ble_eq_true rfl) dX5_blockOf_23 ⟨(Nat.le_of_ble_eq_true rfl), (Nat.le_of_ble_eq_true rfl)⟩) [] rfl rfl rfl rfl (fun u => [.int (b2i u)]) (fun u => rfl) (fun r2 hf => ?_)
    refine g_ifB_eq (pc := 26) (tgt := 38) (b := r2) hf C dX5_blockOf_26 (by decide) (fun hf => ?_) (fun hf => ?_)
    · refine g_aload_n (pc := 38) (x := (aM 0)) C dX5_blockOf_38 rfl ?_
      refine g_iconst (pc := 39) (v := 2) C dX5_blockOf_39 (by decide) ?_
      refine g_callW (wr := []) (pc' := 43) (cs' := 0) (sl' := 0) hf C (fun u => some (.int u.2)) (fun u => (wM (kD k) aM u.1)) (fun u hu => gr_V (rest := []) C (cX5_fails_ (kL k) C.tr (kD k) N aM ((mRow v), (mSav v), (mSvn v), (mSnp v), (mKep v), 0, (mFre v), (mFrn v), (mBuf v), (mLen v), (mSpt v), (mNum v), (mOrd v), (mLet v), (mFst v), (mSnd v), (mTok v), (mLft v)) 2 u hu) (fun ht => cwV 1 ht gX5_blockOf_X5_fails rfl rfl rfl hdX5_fails ⟨(Nat.le_of_ble_eq_true rfl), (Nat.le_of_ble_eq_true rfl)⟩) 0 rfl rfl [0, 1, 2, 3, 4, 5, 6, 7, 8, 9] rfl (by decide) rfl rfl (Nat.le_of_ble_eq_true rfl) dX5_blockOf_40 ⟨(Nat.le_of_ble_eq_true rfl), (Nat.le_of_ble_eq_true rfl)⟩) [0, 1, 2, 3, 4, 5, 6, 7, 8, 9] [] rfl rfl (by decide) (by decide) [0, 1, 2, 3, 4, 5, 6, 7, 8, 9] (by decide) (ws' := fun u => (wM (kD k) aM u.1)) (fun u => rfl) rfl rfl rfl (fun u => [.int u.2]) (fun u => rfl) (fun r3 hf => ?_)
      obtain rfl := Option.some.inj hf
      exact g_iret (v := r3.2) C E dX5_blockOf_43 (Nat.le_of_ble_eq_true rfl) (Nat.le_of_ble_eq_true rfl) ⟨rfl, rfl⟩
    · refine g_aload_n (pc := 29) (x := (aM 0)) C dX5_blockOf_29 rfl ?_
      refine g_iload_n (pc := 30) (x := p1) C dX5_blockOf_30 rfl ?_
      refine g_iload_n (pc := 31) (x := p2) C dX5_blockOf_31 rfl ?_
      refine g_callR (pc' := 35) (cs' := 0) (sl' := 0) hf C (fun u => some (.int u)) (fun u hu => gr_V (rest := []) C (cX5_ofBlock_ (kL k) C.tr (kD k) N aM ((mRow v), (mSav v), (mSvn v), (mSnp v), (mKep v), 0, (mFre v), (mFrn v), (mBuf v), (mLen v), (mSpt v), (mNum v), (mOrd v), (mLet v), (mFst v), (mSnd v), (mTok v), (mLft v)) p1 p2 u hu) (fun ht => cwV 2 ht gX5_blockOf_X5_ofBlock rfl rfl rfl hdX5_ofBlock ⟨(Nat.le_of_ble_eq_true rfl), (Nat.le_of_ble_eq_true rfl)⟩) 0 rfl rfl [0, 1, 2, 3, 4, 5, 6, 7, 8, 9] rfl (by decide) rfl rfl (Nat.le_of_ble_eq_true rfl) dX5_blockOf_32 ⟨(Nat.le_of_ble_eq_true rfl), (Nat.le_of_ble_eq_true rfl)⟩) [0, 1, 2, 3, 4, 5, 6, 7, 8, 9] rfl rfl rfl rfl (fun u => [.int u]) (fun u => rfl) (fun r4 hf => ?_)
      refine g_goto (pc := 35) (tgt := 43) C dX5_blockOf_35 (by decide) ?_
      obtain rfl := Option.some.inj hf
      exact g_iret (v := r4) C E dX5_blockOf_43 (Nat.le_of_ble_eq_true rfl) (Nat.le_of_ble_eq_true rfl) ⟨rfl, rfl⟩
  · refine g_aload_n (pc := 13) (x := (aM 0)) C dX5_blockOf_13 rfl ?_
    refine g_iconst (pc := 14) (v := 1) C dX5_blockOf_14 (by decide) ?_
    refine g_callW (wr := []) (pc' := 18) (cs' := 0) (sl' := 0) hf C (fun u => some (.int u.2)) (fun u => (wM (kD k) aM u.1)) (fun u hu => gr_V (rest := []) C (cX5_fails_ (kL k) C.tr (kD k) N aM ((mRow v), (mSav v), (mSvn v), (mSnp v), (mKep v), 0, (mFre v), (mFrn v), (mBuf v), (mLen v), (mSpt v), (mNum v), (mOrd v), (mLet v), (mFst v), (mSnd v), (mTok v), (mLft v)) 1 u hu) (fun ht => cwV 1 ht gX5_blockOf_X5_fails rfl rfl rfl hdX5_fails ⟨(Nat.le_of_ble_eq_true rfl), (Nat.le_of_ble_eq_true rfl)⟩) 0 rfl rfl [0, 1, 2, 3, 4, 5, 6, 7, 8, 9] rfl (by decide) rfl rfl (Nat.le_of_ble_eq_true rfl) dX5_blockOf_15 ⟨(Nat.le_of_ble_eq_true rfl), (Nat.le_of_ble_eq_true rfl)⟩) [0, 1, 2, 3, 4, 5, 6, 7, 8, 9] [] rfl rfl (by decide) (by decide) [0, 1, 2, 3, 4, 5, 6, 7, 8, 9] (by decide) (ws' := fun u => (wM (kD k) aM u.1)) (fun u => rfl) rfl rfl rfl (fun u => [.int u.2]) (fun u => rfl) (fun r5 hf => ?_)
    obtain rfl := Option.some.inj hf
    exact g_iret (v := r5.2) C E dX5_blockOf_18 (Nat.le_of_ble_eq_true rfl) (Nat.le_of_ble_eq_true rfl) ⟨rfl, rfl⟩
set_option maxRecDepth 100000 in
set_option maxHeartbeats 4000000 in
theorem cX5_blockOf_ (l : Launch) (htr : l.stackTraces = false) (D : va_G) (N : Nat) (aM : Nat → Nat) (v : VM) (p1 : Int32) (p2 : Int32) (r : VM × Int32) (hf : fX5_blockOf N v p1 p2 = some r) : Tc l D yX5_blockOf wsX5_blockOf rmX5_blockOf [.ref (aM 0), .int p1, .int p2] (wM D aM v) (fun rv w => rv = some (.int r.2) ∧ w = (wM D aM r.1)) (fun _ _ => False) 0 0 := Tc_of htr (by decide +kernel) rfl (Nat.le_of_ble_eq_true rfl) (fun k C E hl hD => by subst hD; exact wkX5_blockOf C N aM v p1 p2 r hf E)
abbrev rmX5_lengthBehind : Room := { frames := 3, cells := 0, slots := 0, locals := 66 }
theorem inX5_lengthBehind_X5 : ∀ w ∈ wsX50, w ∈ wsX5_lengthBehind := by decide +kernel
theorem lkX5_lengthBehind_7 : Cond.fieldLink RX5 7 "GaugeBlocksModel" (TX5 0).2.1 (TX5 0).2.2.1 ∈ wsX5_lengthBehind := by decide +kernel
theorem hdX5_lengthBehind : yX5_lengthBehind.cls = RX5 ∧ yX5_lengthBehind.cls ≠ "java/lang/invoke/MethodHandle" ∧ yX5_lengthBehind.cls ≠ "java/lang/invoke/VarHandle" ∧ (parseMethodDescriptor yX5_lengthBehind.desc).map (fun d => d.parameters.length) = some 2 := by decide +kernel
def lX5_lengthBehind_40 (N : Nat) (v : VM) (l1 : Int32) (l2 : Int32) (l3 : Int32) (l4 : Int32) : Nat → Int32 → Int32 → Option ((Int32))
  | 0, _, _ => none
  | n + 1, l5, l6 => (if l2 ≤ l6 then some l5 else ((fX5_cooled N l5).bind fun r1 => (lX5_lengthBehind_40 N v l1 l2 l3 l4 n r1 (l6 + 1))))
set_option maxRecDepth 100000 in
set_option maxHeartbeats 4000000 in
theorem wlX5_lengthBehind_40 {k : Kt} (C : gC k cX5_lengthBehind 7 RX5 wsX5_lengthBehind rmX5_lengthBehind "lengthBehind") (N : Nat) (aM : Nat → Nat) (v : VM) (l1 : Int32) (l2 : Int32) (l3 : Int32) (l4 : Int32) : ∀ (n : Nat) (l5 : Int32) (l6 : Int32) (u : (Int32)) (hf : lX5_lengthBehind_40 N v l1 l2 l3 l4 n l5 l6 = some u) (hk0 : gG k (wM (kD k) aM v) [(0, .ref (aM 0)), (1, .int l1), (2, .int l2), (3, .int l3), (4, .int l4), (5, .int u)] 0 0 59 []), gG k (wM (kD k) aM v) [(0, .ref (aM 0)), (1, .int l1), (2, .int l2), (3, .int l3), (4, .int l4), (5, .int l5), (6, .int l6)] 0 0 40 [] := by
  intro n
  induction n with
  | zero => intro l5 l6 u hf hk0; rw [lX5_lengthBehind_40] at hf; cases hf
  | succ n ih =>
    intro l5 l6 u hf hk0
    rw [lX5_lengthBehind_40] at hf
    refine g_iload (pc := 40) (x := l6) C dX5_lengthBehind_40 rfl ?_
    refine g_iload_n (pc := 42) (x := l2) C dX5_lengthBehind_42 rfl ?_
    refine g_icmp_ge (pc := 43) (tgt := 59) (x := l6) (y := l2) hf C dX5_lengthBehind_43 (by decide) (fun hf => ?_) (fun hf => ?_)
    · obtain rfl := Option.some.inj hf
      refine g_lv [0, 1, 2, 3, 4, 5] (lv' := [(0, .ref (aM 0)), (1, .int l1), (2, .int l2), (3, .int l3), (4, .int l4), (5, .int l5)]) rfl ?_
      exact hk0
    · refine g_iload (pc := 46) (x := l5) C dX5_lengthBehind_46 rfl ?_
      refine g_callR (pc' := 51) (cs' := 0) (sl' := 0) hf C (fun u => some (.int u)) (fun u hu => gr_S (rest := []) C (cX5_cooled_ (kL k) C.tr (kD k) N l5 u hu) (fun ht => va_cwS 1 ht gX5_lengthBehind_X5_cooled rfl rfl rfl hsX5_cooled ⟨(Nat.le_of_ble_eq_true rfl), (Nat.le_of_ble_eq_true rfl)⟩) [] rfl (by decide) rfl rfl (Nat.le_of_ble_eq_true rfl) dX5_lengthBehind_48 ⟨(Nat.le_of_ble_eq_true rfl), (Nat.le_of_ble_eq_true rfl)⟩) [] rfl rfl rfl rfl (fun u => [.int u]) (fun u => rfl) (fun r1 hf => ?_)
      refine g_istore (pc := 51) (lv' := [(5, .int r1), (0, .ref (aM 0)), (1, .int l1), (2, .int l2), (3, .int l3), (4, .int l4), (6, .int l6)]) C dX5_lengthBehind_51 (by decide) rfl ?_
      refine g_iinc (pc := 53) (x := l6) (v := (l6 + 1)) (lv' := [(6, .int (l6 + 1)), (5, .int r1), (0, .ref (aM 0)), (1, .int l1), (2, .int l2), (3, .int l3), (4, .int l4)]) C dX5_lengthBehind_53 rfl rfl (by decide) rfl ?_
      refine g_goto (pc := 56) (tgt := 40) C dX5_lengthBehind_56 (by decide) ?_
      refine g_lv [2, 3, 4, 5, 6, 1, 0] (lv' := [(0, .ref (aM 0)), (1, .int l1), (2, .int l2), (3, .int l3), (4, .int l4), (5, .int r1), (6, .int (l6 + 1))]) rfl ?_
      exact ih r1 (l6 + 1) u hf hk0
def lX5_lengthBehind_5 (N : Nat) (v : VM) (l1 : Int32) (l2 : Int32) : Nat → Int32 → Int32 → Option ((Int32))
  | 0, _, _ => none
  | n + 1, l3, l4 => ck 8 149 ((if ((mRow v) (Int32.toNatClampNeg 8)) ≤ l4 then some l3 else ((fX5_of N v l4 4).bind fun r1 => (if r1 = l1 then ((fX5_of N v l4 3).bind fun r2 => ((lX5_lengthBehind_40 N v l1 l2 l3 l4 N r2 0).bind fun r3 => ((fX5_trueLength N v l4 r3).bind fun r4 => ((fX5_of N v l4 5).bind fun r5 => (if r5 ≤ (0 : Int32) then (lX5_lengthBehind_5 N v l1 l2 n (l3 + (r4 + 0)) (l4 + 1)) else ck 0 149 ((lX5_lengthBehind_5 N v l1 l2 n (l3 + (r4 + ((mRow v) (Int32.toNatClampNeg 0)))) (l4 + 1)))))))) else (lX5_lengthBehind_5 N v l1 l2 n l3 (l4 + 1))))))
set_option maxRecDepth 100000 in
set_option maxHeartbeats 4000000 in
theorem wlX5_lengthBehind_5 {k : Kt} (C : gC k cX5_lengthBehind 7 RX5 wsX5_lengthBehind rmX5_lengthBehind "lengthBehind") (N : Nat) (aM : Nat → Nat) (v : VM) (l1 : Int32) (l2 : Int32) : ∀ (n : Nat) (l3 : Int32) (l4 : Int32) (u : (Int32)) (hf : lX5_lengthBehind_5 N v l1 l2 n l3 l4 = some u) (hk0 : gG k (wM (kD k) aM v) [(3, .int u)] 0 0 97 []), gG k (wM (kD k) aM v) [(0, .ref (aM 0)), (1, .int l1), (2, .int l2), (3, .int l3), (4, .int l4)] 0 0 5 [] := by
  intro n
  induction n with
  | zero => intro l3 l4 u hf hk0; rw [lX5_lengthBehind_5] at hf; cases hf
  | succ n ih =>
    intro l3 l4 u hf hk0
    rw [lX5_lengthBehind_5] at hf
    refine g_iload (pc := 5) (x := l4) C dX5_lengthBehind_5 rfl ?_
    refine g_aload_n (pc := 7) (x := (aM 0)) C dX5_lengthBehind_7 rfl ?_
    refine g_getf (pc := 8) C 0 rfl rfl inX5_lengthBehind_X5 0 (by decide) lkX5_lengthBehind_7 rfl rfl dX5_lengthBehind_8 ?_
    refine g_bipush (pc := 11) (v := 8) C dX5_lengthBehind_11 (by decide) ?_
    refine g_iald (pc := 13) (i := 8) hf C 1 rfl dX5_lengthBehind_13 (fun hf => ?_)
    refine g_icmp_ge (pc := 14) (tgt := 97) (x := l4) (y := ((mRow v) (Int32.toNatClampNeg 8))) hf C dX5_lengthBehind_14 (by decide) (fun hf => ?_) (fun hf => ?_)
    · obtain rfl := Option.some.inj hf
      refine g_lv [3] (lv' := [(3, .int l3)]) rfl ?_
      exact hk0
    · refine g_aload_n (pc := 17) (x := (aM 0)) C dX5_lengthBehind_17 rfl ?_
      refine g_iload (pc := 18) (x := l4) C dX5_lengthBehind_18 rfl ?_
      refine g_iconst (pc := 20) (v := 4) C dX5_lengthBehind_20 (by decide) ?_
      refine g_callR (pc' := 24) (cs' := 0) (sl' := 0) hf C (fun u => some (.int u)) (fun u hu => gr_V (rest := []) C (cX5_of_ (kL k) C.tr (kD k) N aM v l4 4 u hu) (fun ht => cwV 2 ht gX5_lengthBehind_X5_of rfl rfl rfl hdX5_of ⟨(Nat.le_of_ble_eq_true rfl), (Nat.le_of_ble_eq_true rfl)⟩) 0 rfl rfl [0, 1, 2, 3, 4, 5, 6, 7, 8, 9] rfl (by decide) rfl rfl (Nat.le_of_ble_eq_true rfl) dX5_lengthBehind_21 ⟨(Nat.le_of_ble_eq_true rfl), (Nat.le_of_ble_eq_true rfl)⟩) [0, 1, 2, 3, 4, 5, 6, 7, 8, 9] rfl rfl rfl rfl (fun u => [.int u]) (fun u => rfl) (fun r1 hf => ?_)
      refine g_iload_n (pc := 24) (x := l1) C dX5_lengthBehind_24 rfl ?_
      refine g_icmp_ne (pc := 25) (tgt := 91) (x := r1) (y := l1) hf C dX5_lengthBehind_25 (by decide) (fun hf => ?_) (fun hf => ?_)
      · refine g_iinc (pc := 91) (x := l4) (v := (l4 + 1)) (lv' := [(4, .int (l4 + 1)), (0, .ref (aM 0)), (1, .int l1), (2, .int l2), (3, .int l3)]) C dX5_lengthBehind_91 rfl rfl (by decide) rfl ?_
        refine g_goto (pc := 94) (tgt := 5) C dX5_lengthBehind_94 (by decide) ?_
        refine g_lv [1, 2, 3, 4, 0] (lv' := [(0, .ref (aM 0)), (1, .int l1), (2, .int l2), (3, .int l3), (4, .int (l4 + 1))]) rfl ?_
        exact ih l3 (l4 + 1) u hf hk0
      · refine g_aload_n (pc := 28) (x := (aM 0)) C dX5_lengthBehind_28 rfl ?_
        refine g_iload (pc := 29) (x := l4) C dX5_lengthBehind_29 rfl ?_
        refine g_iconst (pc := 31) (v := 3) C dX5_lengthBehind_31 (by decide) ?_
        refine g_callR (pc' := 35) (cs' := 0) (sl' := 0) hf C (fun u => some (.int u)) (fun u hu => gr_V (rest := []) C (cX5_of_ (kL k) C.tr (kD k) N aM v l4 3 u hu) (fun ht => cwV 2 ht gX5_lengthBehind_X5_of rfl rfl rfl hdX5_of ⟨(Nat.le_of_ble_eq_true rfl), (Nat.le_of_ble_eq_true rfl)⟩) 0 rfl rfl [0, 1, 2, 3, 4, 5, 6, 7, 8, 9] rfl (by decide) rfl rfl (Nat.le_of_ble_eq_true rfl) dX5_lengthBehind_32 ⟨(Nat.le_of_ble_eq_true rfl), (Nat.le_of_ble_eq_true rfl)⟩) [0, 1, 2, 3, 4, 5, 6, 7, 8, 9] rfl rfl rfl rfl (fun u => [.int u]) (fun u => rfl) (fun r2 hf => ?_)
        refine g_istore (pc := 35) (lv' := [(5, .int r2), (0, .ref (aM 0)), (1, .int l1), (2, .int l2), (3, .int l3), (4, .int l4)]) C dX5_lengthBehind_35 (by decide) rfl ?_
        refine g_iconst (pc := 37) (v := 0) C dX5_lengthBehind_37 (by decide) ?_
        refine g_istore (pc := 38) (lv' := [(6, .int 0), (5, .int r2), (0, .ref (aM 0)), (1, .int l1), (2, .int l2), (3, .int l3), (4, .int l4)]) C dX5_lengthBehind_38 (by decide) rfl ?_
        obtain ⟨r3, h3, hf⟩ := bd_e hf
        refine g_lv [2, 3, 4, 5, 6, 1, 0] (lv' := [(0, .ref (aM 0)), (1, .int l1), (2, .int l2), (3, .int l3), (4, .int l4), (5, .int r2), (6, .int 0)]) rfl ?_
        refine wlX5_lengthBehind_40 C N aM v l1 l2 l3 l4 N r2 0 r3 h3 ?_
        refine g_iload_n (pc := 59) (x := l3) C dX5_lengthBehind_59 rfl ?_
        refine g_aload_n (pc := 60) (x := (aM 0)) C dX5_lengthBehind_60 rfl ?_
        refine g_iload (pc := 61) (x := l4) C dX5_lengthBehind_61 rfl ?_
        refine g_iload (pc := 63) (x := r3) C dX5_lengthBehind_63 rfl ?_
        refine g_callR (pc' := 68) (cs' := 0) (sl' := 0) hf C (fun u => some (.int u)) (fun u hu => gr_V (rest := [.int l3]) C (cX5_trueLength_ (kL k) C.tr (kD k) N aM v l4 r3 u hu) (fun ht => cwV 2 ht gX5_lengthBehind_X5_trueLength rfl rfl rfl hdX5_trueLength ⟨(Nat.le_of_ble_eq_true rfl), (Nat.le_of_ble_eq_true rfl)⟩) 0 rfl rfl [0, 1, 2, 3, 4, 5, 6, 7, 8, 9] rfl (by decide) rfl rfl (Nat.le_of_ble_eq_true rfl) dX5_lengthBehind_65 ⟨(Nat.le_of_ble_eq_true rfl), (Nat.le_of_ble_eq_true rfl)⟩) [0, 1, 2, 3, 4, 5, 6, 7, 8, 9] rfl rfl rfl rfl (fun u => [.int u, .int l3]) (fun u => rfl) (fun r4 hf => ?_)
        refine g_aload_n (pc := 68) (x := (aM 0)) C dX5_lengthBehind_68 rfl ?_
        refine g_iload (pc := 69) (x := l4) C dX5_lengthBehind_69 rfl ?_
        refine g_iconst (pc := 71) (v := 5) C dX5_lengthBehind_71 (by decide) ?_
        refine g_callR (pc' := 75) (cs' := 0) (sl' := 0) hf C (fun u => some (.int u)) (fun u hu => gr_V (rest := [.int r4, .int l3]) C (cX5_of_ (kL k) C.tr (kD k) N aM v l4 5 u hu) (fun ht => cwV 2 ht gX5_lengthBehind_X5_of rfl rfl rfl hdX5_of ⟨(Nat.le_of_ble_eq_true rfl), (Nat.le_of_ble_eq_true rfl)⟩) 0 rfl rfl [0, 1, 2, 3, 4, 5, 6, 7, 8, 9] rfl (by decide) rfl rfl (Nat.le_of_ble_eq_true rfl) dX5_lengthBehind_72 ⟨(Nat.le_of_ble_eq_true rfl), (Nat.le_of_ble_eq_true rfl)⟩) [0, 1, 2, 3, 4, 5, 6, 7, 8, 9] rfl rfl rfl rfl (fun u => [.int u, .int r4, .int l3]) (fun u => rfl) (fun r5 hf => ?_)
        refine g_if_le (pc := 75) (tgt := 87) (x := r5) hf C dX5_lengthBehind_75 (by decide) (fun hf => ?_) (fun hf => ?_)
        · refine g_iconst (pc := 87) (v := 0) C dX5_lengthBehind_87 (by decide) ?_
          refine g_iadd (pc := 88) (x := r4) (y := 0) C dX5_lengthBehind_88 ?_
          refine g_iadd (pc := 89) (x := l3) (y := (r4 + 0)) C dX5_lengthBehind_89 ?_
          refine g_istore_n (pc := 90) (lv' := [(3, .int (l3 + (r4 + 0))), (0, .ref (aM 0)), (1, .int l1), (2, .int l2), (4, .int l4), (5, .int r3)]) C dX5_lengthBehind_90 (by decide) rfl ?_
          refine g_iinc (pc := 91) (x := l4) (v := (l4 + 1)) (lv' := [(4, .int (l4 + 1)), (3, .int (l3 + (r4 + 0))), (0, .ref (aM 0)), (1, .int l1), (2, .int l2), (5, .int r3)]) C dX5_lengthBehind_91 rfl rfl (by decide) rfl ?_
          refine g_goto (pc := 94) (tgt := 5) C dX5_lengthBehind_94 (by decide) ?_
          refine g_lv [2, 3, 4, 1, 0] (lv' := [(0, .ref (aM 0)), (1, .int l1), (2, .int l2), (3, .int (l3 + (r4 + 0))), (4, .int (l4 + 1))]) rfl ?_
          exact ih (l3 + (r4 + 0)) (l4 + 1) u hf hk0
        · refine g_aload_n (pc := 78) (x := (aM 0)) C dX5_lengthBehind_78 rfl ?_
          refine g_getf (pc := 79) C 0 rfl rfl inX5_lengthBehind_X5 0 (by decide) lkX5_lengthBehind_7 rfl rfl dX5_lengthBehind_79 ?_
          refine g_iconst (pc := 82) (v := 0) C dX5_lengthBehind_82 (by decide) ?_
          refine g_iald (pc := 83) (i := 0) hf C 1 rfl dX5_lengthBehind_83 (fun hf => ?_)
          refine g_goto (pc := 84) (tgt := 88) C dX5_lengthBehind_84 (by decide) ?_
          refine g_iadd (pc := 88) (x := r4) (y := ((mRow v) (Int32.toNatClampNeg 0))) C dX5_lengthBehind_88 ?_
          refine g_iadd (pc := 89) (x := l3) (y := (r4 + ((mRow v) (Int32.toNatClampNeg 0)))) C dX5_lengthBehind_89 ?_
          refine g_istore_n (pc := 90) (lv' := [(3, .int (l3 + (r4 + ((mRow v) (Int32.toNatClampNeg 0))))), (0, .ref (aM 0)), (1, .int l1), (2, .int l2), (4, .int l4), (5, .int r3)]) C dX5_lengthBehind_90 (by decide) rfl ?_
          refine g_iinc (pc := 91) (x := l4) (v := (l4 + 1)) (lv' := [(4, .int (l4 + 1)), (3, .int (l3 + (r4 + ((mRow v) (Int32.toNatClampNeg 0))))), (0, .ref (aM 0)), (1, .int l1), (2, .int l2), (5, .int r3)]) C dX5_lengthBehind_91 rfl rfl (by decide) rfl ?_
          refine g_goto (pc := 94) (tgt := 5) C dX5_lengthBehind_94 (by decide) ?_
          refine g_lv [2, 3, 4, 1, 0] (lv' := [(0, .ref (aM 0)), (1, .int l1), (2, .int l2), (3, .int (l3 + (r4 + ((mRow v) (Int32.toNatClampNeg 0))))), (4, .int (l4 + 1))]) rfl ?_
          exact ih (l3 + (r4 + ((mRow v) (Int32.toNatClampNeg 0)))) (l4 + 1) u hf hk0
def fX5_lengthBehind (N : Nat) (v : VM) (p1 : Int32) (p2 : Int32) : Option (Int32) := ((lX5_lengthBehind_5 N v p1 p2 N 0 0).bind fun r1 => some r1)
set_option maxRecDepth 100000 in
set_option maxHeartbeats 4000000 in
theorem wkX5_lengthBehind {k : Kt} (C : gC k cX5_lengthBehind 7 RX5 wsX5_lengthBehind rmX5_lengthBehind "lengthBehind") (N : Nat) (aM : Nat → Nat) (v : VM) (p1 : Int32) (p2 : Int32) (r : Int32) (hf : fX5_lengthBehind N v p1 p2 = some r) (E : gE k (wM (kD k) aM v) (fun rv w => rv = some (.int r) ∧ w = (wM (kD k) aM v)) (fun _ _ => False) 0 0 (some .int) []) : gG k (wM (kD k) aM v) [(0, .ref (aM 0)), (1, .int p1), (2, .int p2)] 0 0 0 [] := by
  unfold fX5_lengthBehind at hf
  refine g_iconst (pc := 0) (v := 0) C dX5_lengthBehind_0 (by decide) ?_
  refine g_istore_n (pc := 1) (lv' := [(3, .int 0), (0, .ref (aM 0)), (1, .int p1), (2, .int p2)]) C dX5_lengthBehind_1 (by decide) rfl ?_
  refine g_iconst (pc := 2) (v := 0) C dX5_lengthBehind_2 (by decide) ?_
  refine g_istore (pc := 3) (lv' := [(4, .int 0), (3, .int 0), (0, .ref (aM 0)), (1, .int p1), (2, .int p2)]) C dX5_lengthBehind_3 (by decide) rfl ?_
  obtain ⟨r1, h1, hf⟩ := bd_e hf
  refine g_lv [2, 3, 4, 1, 0] (lv' := [(0, .ref (aM 0)), (1, .int p1), (2, .int p2), (3, .int 0), (4, .int 0)]) rfl ?_
  refine wlX5_lengthBehind_5 C N aM v p1 p2 N 0 0 r1 h1 ?_
  refine g_iload_n (pc := 97) (x := r1) C dX5_lengthBehind_97 rfl ?_
  obtain rfl := Option.some.inj hf
  exact g_iret (v := r1) C E dX5_lengthBehind_98 (Nat.le_of_ble_eq_true rfl) (Nat.le_of_ble_eq_true rfl) ⟨rfl, rfl⟩
set_option maxRecDepth 100000 in
set_option maxHeartbeats 4000000 in
theorem cX5_lengthBehind_ (l : Launch) (htr : l.stackTraces = false) (D : va_G) (N : Nat) (aM : Nat → Nat) (v : VM) (p1 : Int32) (p2 : Int32) (r : Int32) (hf : fX5_lengthBehind N v p1 p2 = some r) : Tc l D yX5_lengthBehind wsX5_lengthBehind rmX5_lengthBehind [.ref (aM 0), .int p1, .int p2] (wM D aM v) (fun rv w => rv = some (.int r) ∧ w = (wM D aM v)) (fun _ _ => False) 0 0 := Tc_of htr (by decide +kernel) rfl (Nat.le_of_ble_eq_true rfl) (fun k C E hl hD => by subst hD; exact wkX5_lengthBehind C N aM v p1 p2 r hf E)
abbrev rmX5_together : Room := { frames := 3, cells := 0, slots := 0, locals := 65 }
theorem inX5_together_X5 : ∀ w ∈ wsX50, w ∈ wsX5_together := by decide +kernel
theorem lkX5_together_7 : Cond.fieldLink RX5 7 "GaugeBlocksModel" (TX5 0).2.1 (TX5 0).2.2.1 ∈ wsX5_together := by decide +kernel
theorem hdX5_together : yX5_together.cls = RX5 ∧ yX5_together.cls ≠ "java/lang/invoke/MethodHandle" ∧ yX5_together.cls ≠ "java/lang/invoke/VarHandle" ∧ (parseMethodDescriptor yX5_together.desc).map (fun d => d.parameters.length) = some 2 := by decide +kernel
def lX5_together_14 (N : Nat) (v : VM) (l1 : Int32) (l2 : Int32) : Nat → Int32 → Int32 → Option ((Int32))
  | 0, _, _ => none
  | n + 1, l3, l4 => ck 8 149 ((if ((mRow v) (Int32.toNatClampNeg 8)) ≤ l4 then some l3 else ((fX5_of N v l4 4).bind fun r1 => (if r1 = l1 then ((fX5_grade N v l4).bind fun r2 => (if l2 = (0 : Int32) then ((fX5_of N v l4 0).bind fun r3 => (lX5_together_14 N v l1 l2 n (l3 + r3) (l4 + 1))) else (if l2 = (1 : Int32) then (lX5_together_14 N v l1 l2 n (l3 ||| ((1 : Int32) <<< (l4 &&& 31))) (l4 + 1)) else (if r2 ≤ l3 then (lX5_together_14 N v l1 l2 n l3 (l4 + 1)) else (lX5_together_14 N v l1 l2 n r2 (l4 + 1)))))) else (lX5_together_14 N v l1 l2 n l3 (l4 + 1))))))
set_option maxRecDepth 100000 in
set_option maxHeartbeats 4000000 in
theorem wlX5_together_14 {k : Kt} (C : gC k cX5_together 6 RX5 wsX5_together rmX5_together "together") (N : Nat) (aM : Nat → Nat) (v : VM) (l1 : Int32) (l2 : Int32) : ∀ (n : Nat) (l3 : Int32) (l4 : Int32) (u : (Int32)) (hf : lX5_together_14 N v l1 l2 n l3 l4 = some u) (hk0 : gG k (wM (kD k) aM v) [(3, .int u)] 0 0 94 []), gG k (wM (kD k) aM v) [(0, .ref (aM 0)), (1, .int l1), (2, .int l2), (3, .int l3), (4, .int l4)] 0 0 14 [] := by
  intro n
  induction n with
  | zero => intro l3 l4 u hf hk0; rw [lX5_together_14] at hf; cases hf
  | succ n ih =>
    intro l3 l4 u hf hk0
    rw [lX5_together_14] at hf
    refine g_iload (pc := 14) (x := l4) C dX5_together_14 rfl ?_
    refine g_aload_n (pc := 16) (x := (aM 0)) C dX5_together_16 rfl ?_
    refine g_getf (pc := 17) C 0 rfl rfl inX5_together_X5 0 (by decide) lkX5_together_7 rfl rfl dX5_together_17 ?_
    refine g_bipush (pc := 20) (v := 8) C dX5_together_20 (by decide) ?_
    refine g_iald (pc := 22) (i := 8) hf C 1 rfl dX5_together_22 (fun hf => ?_)
    refine g_icmp_ge (pc := 23) (tgt := 94) (x := l4) (y := ((mRow v) (Int32.toNatClampNeg 8))) hf C dX5_together_23 (by decide) (fun hf => ?_) (fun hf => ?_)
    · obtain rfl := Option.some.inj hf
      refine g_lv [3] (lv' := [(3, .int l3)]) rfl ?_
      exact hk0
    · refine g_aload_n (pc := 26) (x := (aM 0)) C dX5_together_26 rfl ?_
      refine g_iload (pc := 27) (x := l4) C dX5_together_27 rfl ?_
      refine g_iconst (pc := 29) (v := 4) C dX5_together_29 (by decide) ?_
      refine g_callR (pc' := 33) (cs' := 0) (sl' := 0) hf C (fun u => some (.int u)) (fun u hu => gr_V (rest := []) C (cX5_of_ (kL k) C.tr (kD k) N aM v l4 4 u hu) (fun ht => cwV 2 ht gX5_together_X5_of rfl rfl rfl hdX5_of ⟨(Nat.le_of_ble_eq_true rfl), (Nat.le_of_ble_eq_true rfl)⟩) 0 rfl rfl [0, 1, 2, 3, 4, 5, 6, 7, 8, 9] rfl (by decide) rfl rfl (Nat.le_of_ble_eq_true rfl) dX5_together_30 ⟨(Nat.le_of_ble_eq_true rfl), (Nat.le_of_ble_eq_true rfl)⟩) [0, 1, 2, 3, 4, 5, 6, 7, 8, 9] rfl rfl rfl rfl (fun u => [.int u]) (fun u => rfl) (fun r1 hf => ?_)
      refine g_iload_n (pc := 33) (x := l1) C dX5_together_33 rfl ?_
      refine g_icmp_ne (pc := 34) (tgt := 88) (x := r1) (y := l1) hf C dX5_together_34 (by decide) (fun hf => ?_) (fun hf => ?_)
      · refine g_iinc (pc := 88) (x := l4) (v := (l4 + 1)) (lv' := [(4, .int (l4 + 1)), (0, .ref (aM 0)), (1, .int l1), (2, .int l2), (3, .int l3)]) C dX5_together_88 rfl rfl (by decide) rfl ?_
        refine g_goto (pc := 91) (tgt := 14) C dX5_together_91 (by decide) ?_
        refine g_lv [1, 2, 3, 4, 0] (lv' := [(0, .ref (aM 0)), (1, .int l1), (2, .int l2), (3, .int l3), (4, .int (l4 + 1))]) rfl ?_
        exact ih l3 (l4 + 1) u hf hk0
      · refine g_aload_n (pc := 37) (x := (aM 0)) C dX5_together_37 rfl ?_
        refine g_iload (pc := 38) (x := l4) C dX5_together_38 rfl ?_
        refine g_callR (pc' := 43) (cs' := 0) (sl' := 0) hf C (fun u => some (.int u)) (fun u hu => gr_V (rest := []) C (cX5_grade_ (kL k) C.tr (kD k) N aM v l4 u hu) (fun ht => cwV 1 ht gX5_together_X5_grade rfl rfl rfl hdX5_grade ⟨(Nat.le_of_ble_eq_true rfl), (Nat.le_of_ble_eq_true rfl)⟩) 0 rfl rfl [0, 1, 2, 3, 4, 5, 6, 7, 8, 9] rfl (by decide) rfl rfl (Nat.le_of_ble_eq_true rfl) dX5_together_40 ⟨(Nat.le_of_ble_eq_true rfl), (Nat.le_of_ble_eq_true rfl)⟩) [0, 1, 2, 3, 4, 5, 6, 7, 8, 9] rfl rfl rfl rfl (fun u => [.int u]) (fun u => rfl) (fun r2 hf => ?_)
        refine g_istore (pc := 43) (lv' := [(5, .int r2), (0, .ref (aM 0)), (1, .int l1), (2, .int l2), (3, .int l3), (4, .int l4)]) C dX5_together_43 (by decide) rfl ?_
        refine g_iload_n (pc := 45) (x := l2) C dX5_together_45 rfl ?_
        refine g_if_ne (pc := 46) (tgt := 61) (x := l2) hf C dX5_together_46 (by decide) (fun hf => ?_) (fun hf => ?_)
        · refine g_iload_n (pc := 61) (x := l2) C dX5_together_61 rfl ?_
          refine g_iconst (pc := 62) (v := 1) C dX5_together_62 (by decide) ?_
          refine g_icmp_ne (pc := 63) (tgt := 75) (x := l2) (y := 1) hf C dX5_together_63 (by decide) (fun hf => ?_) (fun hf => ?_)
          · refine g_iload (pc := 75) (x := r2) C dX5_together_75 rfl ?_
            refine g_iload_n (pc := 77) (x := l3) C dX5_together_77 rfl ?_
            refine g_icmp_le (pc := 78) (tgt := 86) (x := r2) (y := l3) hf C dX5_together_78 (by decide) (fun hf => ?_) (fun hf => ?_)
            · refine g_iload_n (pc := 86) (x := l3) C dX5_together_86 rfl ?_
              refine g_istore_n (pc := 87) (lv' := [(3, .int l3), (5, .int r2), (0, .ref (aM 0)), (1, .int l1), (2, .int l2), (4, .int l4)]) C dX5_together_87 (by decide) rfl ?_
              refine g_iinc (pc := 88) (x := l4) (v := (l4 + 1)) (lv' := [(4, .int (l4 + 1)), (3, .int l3), (5, .int r2), (0, .ref (aM 0)), (1, .int l1), (2, .int l2)]) C dX5_together_88 rfl rfl (by decide) rfl ?_
              refine g_goto (pc := 91) (tgt := 14) C dX5_together_91 (by decide) ?_
              refine g_lv [3, 4, 5, 1, 0] (lv' := [(0, .ref (aM 0)), (1, .int l1), (2, .int l2), (3, .int l3), (4, .int (l4 + 1))]) rfl ?_
              exact ih l3 (l4 + 1) u hf hk0
            · refine g_iload (pc := 81) (x := r2) C dX5_together_81 rfl ?_
              refine g_goto (pc := 83) (tgt := 87) C dX5_together_83 (by decide) ?_
              refine g_istore_n (pc := 87) (lv' := [(3, .int r2), (5, .int r2), (0, .ref (aM 0)), (1, .int l1), (2, .int l2), (4, .int l4)]) C dX5_together_87 (by decide) rfl ?_
              refine g_iinc (pc := 88) (x := l4) (v := (l4 + 1)) (lv' := [(4, .int (l4 + 1)), (3, .int r2), (5, .int r2), (0, .ref (aM 0)), (1, .int l1), (2, .int l2)]) C dX5_together_88 rfl rfl (by decide) rfl ?_
              refine g_goto (pc := 91) (tgt := 14) C dX5_together_91 (by decide) ?_
              refine g_lv [3, 4, 5, 1, 0] (lv' := [(0, .ref (aM 0)), (1, .int l1), (2, .int l2), (3, .int r2), (4, .int (l4 + 1))]) rfl ?_
              exact ih r2 (l4 + 1) u hf hk0
          · refine g_iload_n (pc := 66) (x := l3) C dX5_together_66 rfl ?_
            refine g_iconst (pc := 67) (v := 1) C dX5_together_67 (by decide) ?_
            refine g_iload (pc := 68) (x := l4) C dX5_together_68 rfl ?_
            refine g_ishl (pc := 70) (x := (1 : Int32)) (y := l4) C dX5_together_70 ?_
            refine g_ior (pc := 71) (x := l3) (y := ((1 : Int32) <<< (l4 &&& 31))) C dX5_together_71 ?_
            refine g_goto (pc := 72) (tgt := 87) C dX5_together_72 (by decide) ?_
            refine g_istore_n (pc := 87) (lv' := [(3, .int (l3 ||| ((1 : Int32) <<< (l4 &&& 31)))), (5, .int r2), (0, .ref (aM 0)), (1, .int l1), (2, .int l2), (4, .int l4)]) C dX5_together_87 (by decide) rfl ?_
            refine g_iinc (pc := 88) (x := l4) (v := (l4 + 1)) (lv' := [(4, .int (l4 + 1)), (3, .int (l3 ||| ((1 : Int32) <<< (l4 &&& 31)))), (5, .int r2), (0, .ref (aM 0)), (1, .int l1), (2, .int l2)]) C dX5_together_88 rfl rfl (by decide) rfl ?_
            refine g_goto (pc := 91) (tgt := 14) C dX5_together_91 (by decide) ?_
            refine g_lv [3, 4, 5, 1, 0] (lv' := [(0, .ref (aM 0)), (1, .int l1), (2, .int l2), (3, .int (l3 ||| ((1 : Int32) <<< (l4 &&& 31)))), (4, .int (l4 + 1))]) rfl ?_
            exact ih (l3 ||| ((1 : Int32) <<< (l4 &&& 31))) (l4 + 1) u hf hk0
        · refine g_iload_n (pc := 49) (x := l3) C dX5_together_49 rfl ?_
          refine g_aload_n (pc := 50) (x := (aM 0)) C dX5_together_50 rfl ?_
          refine g_iload (pc := 51) (x := l4) C dX5_together_51 rfl ?_
          refine g_iconst (pc := 53) (v := 0) C dX5_together_53 (by decide) ?_
          refine g_callR (pc' := 57) (cs' := 0) (sl' := 0) hf C (fun u => some (.int u)) (fun u hu => gr_V (rest := [.int l3]) C (cX5_of_ (kL k) C.tr (kD k) N aM v l4 0 u hu) (fun ht => cwV 2 ht gX5_together_X5_of rfl rfl rfl hdX5_of ⟨(Nat.le_of_ble_eq_true rfl), (Nat.le_of_ble_eq_true rfl)⟩) 0 rfl rfl [0, 1, 2, 3, 4, 5, 6, 7, 8, 9] rfl (by decide) rfl rfl (Nat.le_of_ble_eq_true rfl) dX5_together_54 ⟨(Nat.le_of_ble_eq_true rfl), (Nat.le_of_ble_eq_true rfl)⟩) [0, 1, 2, 3, 4, 5, 6, 7, 8, 9] rfl rfl rfl rfl (fun u => [.int u, .int l3]) (fun u => rfl) (fun r3 hf => ?_)
          refine g_iadd (pc := 57) (x := l3) (y := r3) C dX5_together_57 ?_
          refine g_goto (pc := 58) (tgt := 87) C dX5_together_58 (by decide) ?_
          refine g_istore_n (pc := 87) (lv' := [(3, .int (l3 + r3)), (5, .int r2), (0, .ref (aM 0)), (1, .int l1), (2, .int l2), (4, .int l4)]) C dX5_together_87 (by decide) rfl ?_
          refine g_iinc (pc := 88) (x := l4) (v := (l4 + 1)) (lv' := [(4, .int (l4 + 1)), (3, .int (l3 + r3)), (5, .int r2), (0, .ref (aM 0)), (1, .int l1), (2, .int l2)]) C dX5_together_88 rfl rfl (by decide) rfl ?_
          refine g_goto (pc := 91) (tgt := 14) C dX5_together_91 (by decide) ?_
          refine g_lv [3, 4, 5, 1, 0] (lv' := [(0, .ref (aM 0)), (1, .int l1), (2, .int l2), (3, .int (l3 + r3)), (4, .int (l4 + 1))]) rfl ?_
          exact ih (l3 + r3) (l4 + 1) u hf hk0
def fX5_together (N : Nat) (v : VM) (p1 : Int32) (p2 : Int32) : Option (Int32) := (if p2 = (2 : Int32) then ((lX5_together_14 N v p1 p2 N (-1) 0).bind fun r2 => some r2) else ((lX5_together_14 N v p1 p2 N 0 0).bind fun r1 => some r1))
set_option maxRecDepth 100000 in
set_option maxHeartbeats 4000000 in
theorem wkX5_together {k : Kt} (C : gC k cX5_together 6 RX5 wsX5_together rmX5_together "together") (N : Nat) (aM : Nat → Nat) (v : VM) (p1 : Int32) (p2 : Int32) (r : Int32) (hf : fX5_together N v p1 p2 = some r) (E : gE k (wM (kD k) aM v) (fun rv w => rv = some (.int r) ∧ w = (wM (kD k) aM v)) (fun _ _ => False) 0 0 (some .int) []) : gG k (wM (kD k) aM v) [(0, .ref (aM 0)), (1, .int p1), (2, .int p2)] 0 0 0 [] := by
  unfold fX5_together at hf
  refine g_iload_n (pc := 0) (x := p2) C dX5_together_0 rfl ?_
  refine g_iconst (pc := 1) (v := 2) C dX5_together_1 (by decide) ?_
  refine g_icmp_ne (pc := 2) (tgt := 9) (x := p2) (y := 2) hf C dX5_together_2 (by decide) (fun hf => ?_) (fun hf => ?_)
  · refine g_iconst (pc := 9) (v := 0) C dX5_together_9 (by decide) ?_
    refine g_istore_n (pc := 10) (lv' := [(3, .int 0), (0, .ref (aM 0)), (1, .int p1), (2, .int p2)]) C dX5_together_10 (by decide) rfl ?_
    refine g_iconst (pc := 11) (v := 0) C dX5_together_11 (by decide) ?_
    refine g_istore (pc := 12) (lv' := [(4, .int 0), (3, .int 0), (0, .ref (aM 0)), (1, .int p1), (2, .int p2)]) C dX5_together_12 (by decide) rfl ?_
    obtain ⟨r1, h1, hf⟩ := bd_e hf
    refine g_lv [2, 3, 4, 1, 0] (lv' := [(0, .ref (aM 0)), (1, .int p1), (2, .int p2), (3, .int 0), (4, .int 0)]) rfl ?_
    refine wlX5_together_14 C N aM v p1 p2 N 0 0 r1 h1 ?_
    refine g_iload_n (pc := 94) (x := r1) C dX5_together_94 rfl ?_
    obtain rfl := Option.some.inj hf
    exact g_iret (v := r1) C E dX5_together_95 (Nat.le_of_ble_eq_true rfl) (Nat.le_of_ble_eq_true rfl) ⟨rfl, rfl⟩
  · refine g_iconst (pc := 5) (v := (-1)) C dX5_together_5 (by decide) ?_
    refine g_goto (pc := 6) (tgt := 10) C dX5_together_6 (by decide) ?_
    refine g_istore_n (pc := 10) (lv' := [(3, .int (-1)), (0, .ref (aM 0)), (1, .int p1), (2, .int p2)]) C dX5_together_10 (by decide) rfl ?_
    refine g_iconst (pc := 11) (v := 0) C dX5_together_11 (by decide) ?_
    refine g_istore (pc := 12) (lv' := [(4, .int 0), (3, .int (-1)), (0, .ref (aM 0)), (1, .int p1), (2, .int p2)]) C dX5_together_12 (by decide) rfl ?_
    obtain ⟨r2, h2, hf⟩ := bd_e hf
    refine g_lv [2, 3, 4, 1, 0] (lv' := [(0, .ref (aM 0)), (1, .int p1), (2, .int p2), (3, .int (-1)), (4, .int 0)]) rfl ?_
    refine wlX5_together_14 C N aM v p1 p2 N (-1) 0 r2 h2 ?_
    refine g_iload_n (pc := 94) (x := r2) C dX5_together_94 rfl ?_
    obtain rfl := Option.some.inj hf
    exact g_iret (v := r2) C E dX5_together_95 (Nat.le_of_ble_eq_true rfl) (Nat.le_of_ble_eq_true rfl) ⟨rfl, rfl⟩
set_option maxRecDepth 100000 in
set_option maxHeartbeats 4000000 in
theorem cX5_together_ (l : Launch) (htr : l.stackTraces = false) (D : va_G) (N : Nat) (aM : Nat → Nat) (v : VM) (p1 : Int32) (p2 : Int32) (r : Int32) (hf : fX5_together N v p1 p2 = some r) : Tc l D yX5_together wsX5_together rmX5_together [.ref (aM 0), .int p1, .int p2] (wM D aM v) (fun rv w => rv = some (.int r) ∧ w = (wM D aM v)) (fun _ _ => False) 0 0 := Tc_of htr (by decide +kernel) rfl (Nat.le_of_ble_eq_true rfl) (fun k C E hl hD => by subst hD; exact wkX5_together C N aM v p1 p2 r hf E)
abbrev rmX5_ofStack : Room := { frames := 4, cells := 0, slots := 0, locals := 92 }
theorem hdX5_ofStack : yX5_ofStack.cls = RX5 ∧ yX5_ofStack.cls ≠ "java/lang/invoke/MethodHandle" ∧ yX5_ofStack.cls ≠ "java/lang/invoke/VarHandle" ∧ (parseMethodDescriptor yX5_ofStack.desc).map (fun d => d.parameters.length) = some 2 := by decide +kernel
def fX5_ofStack (N : Nat) (v : VM) (p1 : Int32) (p2 : Int32) : Option (Int32) := (if p2 = 0 then ((fX5_height N v p1).bind fun r1 => some r1) else (if p2 = 1 then ((fX5_together N v p1 0).bind fun r2 => some r2) else (if p2 = 2 then ((fX5_lengthBehind N v p1 0).bind fun r3 => some r3) else (if p2 = 3 then ((fX5_together N v p1 1).bind fun r4 => some r4) else (if p2 = 4 then ((fX5_height N v p1).bind fun r5 => ((fX5_blockAt N v p1 (r5 - 1)).bind fun r6 => some r6)) else (if p2 = 5 then ((fX5_together N v p1 2).bind fun r7 => some r7) else ((fX5_lengthBehind N v p1 0).bind fun r8 => ((fX5_together N v p1 0).bind fun r9 => ((fX5_size N (r8 - (1000 * r9))).bind fun r10 => some r10)))))))))
set_option maxRecDepth 100000 in
set_option maxHeartbeats 4000000 in
theorem wkX5_ofStack {k : Kt} (C : gC k cX5_ofStack 3 RX5 wsX5_ofStack rmX5_ofStack "ofStack") (N : Nat) (aM : Nat → Nat) (v : VM) (p1 : Int32) (p2 : Int32) (r : Int32) (hf : fX5_ofStack N v p1 p2 = some r) (E : gE k (wM (kD k) aM v) (fun rv w => rv = some (.int r) ∧ w = (wM (kD k) aM v)) (fun _ _ => False) 0 0 (some .int) []) : gG k (wM (kD k) aM v) [(0, .ref (aM 0)), (1, .int p1), (2, .int p2)] 0 0 0 [] := by
  unfold fX5_ofStack at hf
  refine g_iload_n (pc := 0) (x := p2) C dX5_ofStack_0 rfl ?_
  refine g_split hf (fun e hf => ?_) (fun n1_0 hf => ?_)
  · refine g_tsw (pc := 1) (tgt := 40) C dX5_ofStack_1 e (by decide) (by decide) rfl (by decide) ?_
    refine g_aload_n (pc := 40) (x := (aM 0)) C dX5_ofStack_40 rfl ?_
    refine g_iload_n (pc := 41) (x := p1) C dX5_ofStack_41 rfl ?_
    refine g_callR (pc' := 45) (cs' := 0) (sl' := 0) hf C (fun u => some (.int u)) (fun u hu => gr_V (rest := []) C (cX5_height_ (kL k) C.tr (kD k) N aM v p1 u hu) (fun ht => cwV 1 ht gX5_ofStack_X5_height rfl rfl rfl hdX5_height ⟨(Nat.le_of_ble_eq_true rfl), (Nat.le_of_ble_eq_true rfl)⟩) 0 rfl rfl [0, 1, 2, 3, 4, 5, 6, 7, 8, 9] rfl (by decide) rfl rfl (Nat.le_of_ble_eq_true rfl) dX5_ofStack_42 ⟨(Nat.le_of_ble_eq_true rfl), (Nat.le_of_ble_eq_true rfl)⟩) [0, 1, 2, 3, 4, 5, 6, 7, 8, 9] rfl rfl rfl rfl (fun u => [.int u]) (fun u => rfl) (fun r1 hf => ?_)
    obtain rfl := Option.some.inj hf
    exact g_iret (v := r1) C E dX5_ofStack_45 (Nat.le_of_ble_eq_true rfl) (Nat.le_of_ble_eq_true rfl) ⟨rfl, rfl⟩
  refine g_split hf (fun e hf => ?_) (fun n1_1 hf => ?_)
  · refine g_tsw (pc := 1) (tgt := 46) C dX5_ofStack_1 e (by decide) (by decide) rfl (by decide) ?_
    refine g_aload_n (pc := 46) (x := (aM 0)) C dX5_ofStack_46 rfl ?_
    refine g_iload_n (pc := 47) (x := p1) C dX5_ofStack_47 rfl ?_
    refine g_iconst (pc := 48) (v := 0) C dX5_ofStack_48 (by decide) ?_
    refine g_callR (pc' := 52) (cs' := 0) (sl' := 0) hf C (fun u => some (.int u)) (fun u hu => gr_V (rest := []) C (cX5_together_ (kL k) C.tr (kD k) N aM v p1 0 u hu) (fun ht => cwV 2 ht gX5_ofStack_X5_together rfl rfl rfl hdX5_together ⟨(Nat.le_of_ble_eq_true rfl), (Nat.le_of_ble_eq_true rfl)⟩) 0 rfl rfl [0, 1, 2, 3, 4, 5, 6, 7, 8, 9] rfl (by decide) rfl rfl (Nat.le_of_ble_eq_true rfl) dX5_ofStack_49 ⟨(Nat.le_of_ble_eq_true rfl), (Nat.le_of_ble_eq_true rfl)⟩) [0, 1, 2, 3, 4, 5, 6, 7, 8, 9] rfl rfl rfl rfl (fun u => [.int u]) (fun u => rfl) (fun r2 hf => ?_)
    obtain rfl := Option.some.inj hf
    exact g_iret (v := r2) C E dX5_ofStack_52 (Nat.le_of_ble_eq_true rfl) (Nat.le_of_ble_eq_true rfl) ⟨rfl, rfl⟩
  refine g_split hf (fun e hf => ?_) (fun n1_2 hf => ?_)
  · refine g_tsw (pc := 1) (tgt := 53) C dX5_ofStack_1 e (by decide) (by decide) rfl (by decide) ?_
    refine g_aload_n (pc := 53) (x := (aM 0)) C dX5_ofStack_53 rfl ?_
    refine g_iload_n (pc := 54) (x := p1) C dX5_ofStack_54 rfl ?_
    refine g_iconst (pc := 55) (v := 0) C dX5_ofStack_55 (by decide) ?_
    refine g_callR (pc' := 59) (cs' := 0) (sl' := 0) hf C (fun u => some (.int u)) (fun u hu => gr_V (rest := []) C (cX5_lengthBehind_ (kL k) C.tr (kD k) N aM v p1 0 u hu) (fun ht => cwV 2 ht gX5_ofStack_X5_lengthBehind rfl rfl rfl hdX5_lengthBehind ⟨(Nat.le_of_ble_eq_true rfl), (Nat.le_of_ble_eq_true rfl)⟩) 0 rfl rfl [0, 1, 2, 3, 4, 5, 6, 7, 8, 9] rfl (by decide) rfl rfl (Nat.le_of_ble_eq_true rfl) dX5_ofStack_56 ⟨(Nat.le_of_ble_eq_true rfl), (Nat.le_of_ble_eq_true rfl)⟩) [0, 1, 2, 3, 4, 5, 6, 7, 8, 9] rfl rfl rfl rfl (fun u => [.int u]) (fun u => rfl) (fun r3 hf => ?_)
    obtain rfl := Option.some.inj hf
    exact g_iret (v := r3) C E dX5_ofStack_59 (Nat.le_of_ble_eq_true rfl) (Nat.le_of_ble_eq_true rfl) ⟨rfl, rfl⟩
  refine g_split hf (fun e hf => ?_) (fun n1_3 hf => ?_)
  · refine g_tsw (pc := 1) (tgt := 60) C dX5_ofStack_1 e (by decide) (by decide) rfl (by decide) ?_
    refine g_aload_n (pc := 60) (x := (aM 0)) C dX5_ofStack_60 rfl ?_
    refine g_iload_n (pc := 61) (x := p1) C dX5_ofStack_61 rfl ?_
    refine g_iconst (pc := 62) (v := 1) C dX5_ofStack_62 (by decide) ?_
    refine g_callR (pc' := 66) (cs' := 0) (sl' := 0) hf C (fun u => some (.int u)) (fun u hu => gr_V (rest := []) C (cX5_together_ (kL k) C.tr (kD k) N aM v p1 1 u hu) (fun ht => cwV 2 ht gX5_ofStack_X5_together rfl rfl rfl hdX5_together ⟨(Nat.le_of_ble_eq_true rfl), (Nat.le_of_ble_eq_true rfl)⟩) 0 rfl rfl [0, 1, 2, 3, 4, 5, 6, 7, 8, 9] rfl (by decide) rfl rfl (Nat.le_of_ble_eq_true rfl) dX5_ofStack_63 ⟨(Nat.le_of_ble_eq_true rfl), (Nat.le_of_ble_eq_true rfl)⟩) [0, 1, 2, 3, 4, 5, 6, 7, 8, 9] rfl rfl rfl rfl (fun u => [.int u]) (fun u => rfl) (fun r4 hf => ?_)
    obtain rfl := Option.some.inj hf
    exact g_iret (v := r4) C E dX5_ofStack_66 (Nat.le_of_ble_eq_true rfl) (Nat.le_of_ble_eq_true rfl) ⟨rfl, rfl⟩
  refine g_split hf (fun e hf => ?_) (fun n1_4 hf => ?_)
  · refine g_tsw (pc := 1) (tgt := 67) C dX5_ofStack_1 e (by decide) (by decide) rfl (by decide) ?_
    refine g_aload_n (pc := 67) (x := (aM 0)) C dX5_ofStack_67 rfl ?_
    refine g_iload_n (pc := 68) (x := p1) C dX5_ofStack_68 rfl ?_
    refine g_aload_n (pc := 69) (x := (aM 0)) C dX5_ofStack_69 rfl ?_
    refine g_iload_n (pc := 70) (x := p1) C dX5_ofStack_70 rfl ?_
    refine g_callR (pc' := 74) (cs' := 0) (sl' := 0) hf C (fun u => some (.int u)) (fun u hu => gr_V (rest := [.int p1, .ref (aM 0)]) C (cX5_height_ (kL k) C.tr (kD k) N aM v p1 u hu) (fun ht => cwV 1 ht gX5_ofStack_X5_height rfl rfl rfl hdX5_height ⟨(Nat.le_of_ble_eq_true rfl), (Nat.le_of_ble_eq_true rfl)⟩) 0 rfl rfl [0, 1, 2, 3, 4, 5, 6, 7, 8, 9] rfl (by decide) rfl rfl (Nat.le_of_ble_eq_true rfl) dX5_ofStack_71 ⟨(Nat.le_of_ble_eq_true rfl), (Nat.le_of_ble_eq_true rfl)⟩) [0, 1, 2, 3, 4, 5, 6, 7, 8, 9] rfl rfl rfl rfl (fun u => [.int u, .int p1, .ref (aM 0)]) (fun u => rfl) (fun r5 hf => ?_)
    refine g_iconst (pc := 74) (v := 1) C dX5_ofStack_74 (by decide) ?_
    refine g_isub (pc := 75) (x := r5) (y := 1) C dX5_ofStack_75 ?_
    refine g_callR (pc' := 79) (cs' := 0) (sl' := 0) hf C (fun u => some (.int u)) (fun u hu => gr_V (rest := []) C (cX5_blockAt_ (kL k) C.tr (kD k) N aM v p1 (r5 - 1) u hu) (fun ht => cwV 2 ht gX5_ofStack_X5_blockAt rfl rfl rfl hdX5_blockAt ⟨(Nat.le_of_ble_eq_true rfl), (Nat.le_of_ble_eq_true rfl)⟩) 0 rfl rfl [0, 1, 2, 3, 4, 5, 6, 7, 8, 9] rfl (by decide) rfl rfl (Nat.le_of_ble_eq_true rfl) dX5_ofStack_76 ⟨(Nat.le_of_ble_eq_true rfl), (Nat.le_of_ble_eq_true rfl)⟩) [0, 1, 2, 3, 4, 5, 6, 7, 8, 9] rfl rfl rfl rfl (fun u => [.int u]) (fun u => rfl) (fun r6 hf => ?_)
    obtain rfl := Option.some.inj hf
    exact g_iret (v := r6) C E dX5_ofStack_79 (Nat.le_of_ble_eq_true rfl) (Nat.le_of_ble_eq_true rfl) ⟨rfl, rfl⟩
  refine g_split hf (fun e hf => ?_) (fun n1_5 hf => ?_)
  · refine g_tsw (pc := 1) (tgt := 80) C dX5_ofStack_1 e (by decide) (by decide) rfl (by decide) ?_
    refine g_aload_n (pc := 80) (x := (aM 0)) C dX5_ofStack_80 rfl ?_
    refine g_iload_n (pc := 81) (x := p1) C dX5_ofStack_81 rfl ?_
    refine g_iconst (pc := 82) (v := 2) C dX5_ofStack_82 (by decide) ?_
    refine g_callR (pc' := 86) (cs' := 0) (sl' := 0) hf C (fun u => some (.int u)) (fun u hu => gr_V (rest := []) C (cX5_together_ (kL k) C.tr (kD k) N aM v p1 2 u hu) (fun ht => cwV 2 ht gX5_ofStack_X5_together rfl rfl rfl hdX5_together ⟨(Nat.le_of_ble_eq_true rfl), (Nat.le_of_ble_eq_true rfl)⟩) 0 rfl rfl [0, 1, 2, 3, 4, 5, 6, 7, 8, 9] rfl (by decide) rfl rfl (Nat.le_of_ble_eq_true rfl) dX5_ofStack_83 ⟨(Nat.le_of_ble_eq_true rfl), (Nat.le_of_ble_eq_true rfl)⟩) [0, 1, 2, 3, 4, 5, 6, 7, 8, 9] rfl rfl rfl rfl (fun u => [.int u]) (fun u => rfl) (fun r7 hf => ?_)
    obtain rfl := Option.some.inj hf
    exact g_iret (v := r7) C E dX5_ofStack_86 (Nat.le_of_ble_eq_true rfl) (Nat.le_of_ble_eq_true rfl) ⟨rfl, rfl⟩
  refine g_tswd (pc := 1) (x := p2) (tgt := 87) C dX5_ofStack_1 (by have e1_0 : (p2).toInt ≠ 0 := fun h => n1_0 (Int32.toInt_inj.mp (h.trans (by decide))); have e1_1 : (p2).toInt ≠ 1 := fun h => n1_1 (Int32.toInt_inj.mp (h.trans (by decide))); have e1_2 : (p2).toInt ≠ 2 := fun h => n1_2 (Int32.toInt_inj.mp (h.trans (by decide))); have e1_3 : (p2).toInt ≠ 3 := fun h => n1_3 (Int32.toInt_inj.mp (h.trans (by decide))); have e1_4 : (p2).toInt ≠ 4 := fun h => n1_4 (Int32.toInt_inj.mp (h.trans (by decide))); have e1_5 : (p2).toInt ≠ 5 := fun h => n1_5 (Int32.toInt_inj.mp (h.trans (by decide))); omega) (by decide) ?_
  refine g_aload_n (pc := 87) (x := (aM 0)) C dX5_ofStack_87 rfl ?_
  refine g_iload_n (pc := 88) (x := p1) C dX5_ofStack_88 rfl ?_
  refine g_iconst (pc := 89) (v := 0) C dX5_ofStack_89 (by decide) ?_
  refine g_callR (pc' := 93) (cs' := 0) (sl' := 0) hf C (fun u => some (.int u)) (fun u hu => gr_V (rest := []) C (cX5_lengthBehind_ (kL k) C.tr (kD k) N aM v p1 0 u hu) (fun ht => cwV 2 ht gX5_ofStack_X5_lengthBehind rfl rfl rfl hdX5_lengthBehind ⟨(Nat.le_of_ble_eq_true rfl), (Nat.le_of_ble_eq_true rfl)⟩) 0 rfl rfl [0, 1, 2, 3, 4, 5, 6, 7, 8, 9] rfl (by decide) rfl rfl (Nat.le_of_ble_eq_true rfl) dX5_ofStack_90 ⟨(Nat.le_of_ble_eq_true rfl), (Nat.le_of_ble_eq_true rfl)⟩) [0, 1, 2, 3, 4, 5, 6, 7, 8, 9] rfl rfl rfl rfl (fun u => [.int u]) (fun u => rfl) (fun r8 hf => ?_)
  refine g_sipush (pc := 93) (v := 1000) C dX5_ofStack_93 (by decide) ?_
  refine g_aload_n (pc := 96) (x := (aM 0)) C dX5_ofStack_96 rfl ?_
  refine g_iload_n (pc := 97) (x := p1) C dX5_ofStack_97 rfl ?_
  refine g_iconst (pc := 98) (v := 0) C dX5_ofStack_98 (by decide) ?_
  refine g_callR (pc' := 102) (cs' := 0) (sl' := 0) hf C (fun u => some (.int u)) (fun u hu => gr_V (rest := [.int 1000, .int r8]) C (cX5_together_ (kL k) C.tr (kD k) N aM v p1 0 u hu) (fun ht => cwV 2 ht gX5_ofStack_X5_together rfl rfl rfl hdX5_together ⟨(Nat.le_of_ble_eq_true rfl), (Nat.le_of_ble_eq_true rfl)⟩) 0 rfl rfl [0, 1, 2, 3, 4, 5, 6, 7, 8, 9] rfl (by decide) rfl rfl (Nat.le_of_ble_eq_true rfl) dX5_ofStack_99 ⟨(Nat.le_of_ble_eq_true rfl), (Nat.le_of_ble_eq_true rfl)⟩) [0, 1, 2, 3, 4, 5, 6, 7, 8, 9] rfl rfl rfl rfl (fun u => [.int u, .int 1000, .int r8]) (fun u => rfl) (fun r9 hf => ?_)
  refine g_imul (pc := 102) (x := 1000) (y := r9) C dX5_ofStack_102 ?_
  refine g_isub (pc := 103) (x := r8) (y := (1000 * r9)) C dX5_ofStack_103 ?_
  refine g_callR (pc' := 107) (cs' := 0) (sl' := 0) hf C (fun u => some (.int u)) (fun u hu => gr_S (rest := []) C (cX5_size_ (kL k) C.tr (kD k) N (r8 - (1000 * r9)) u hu) (fun ht => va_cwS 1 ht gX5_ofStack_X5_size rfl rfl rfl hsX5_size ⟨(Nat.le_of_ble_eq_true rfl), (Nat.le_of_ble_eq_true rfl)⟩) [] rfl (by decide) rfl rfl (Nat.le_of_ble_eq_true rfl) dX5_ofStack_104 ⟨(Nat.le_of_ble_eq_true rfl), (Nat.le_of_ble_eq_true rfl)⟩) [] rfl rfl rfl rfl (fun u => [.int u]) (fun u => rfl) (fun r10 hf => ?_)
  obtain rfl := Option.some.inj hf
  exact g_iret (v := r10) C E dX5_ofStack_107 (Nat.le_of_ble_eq_true rfl) (Nat.le_of_ble_eq_true rfl) ⟨rfl, rfl⟩
set_option maxRecDepth 100000 in
set_option maxHeartbeats 4000000 in
theorem cX5_ofStack_ (l : Launch) (htr : l.stackTraces = false) (D : va_G) (N : Nat) (aM : Nat → Nat) (v : VM) (p1 : Int32) (p2 : Int32) (r : Int32) (hf : fX5_ofStack N v p1 p2 = some r) : Tc l D yX5_ofStack wsX5_ofStack rmX5_ofStack [.ref (aM 0), .int p1, .int p2] (wM D aM v) (fun rv w => rv = some (.int r) ∧ w = (wM D aM v)) (fun _ _ => False) 0 0 := Tc_of htr (by decide +kernel) rfl (Nat.le_of_ble_eq_true rfl) (fun k C E hl hD => by subst hD; exact wkX5_ofStack C N aM v p1 p2 r hf E)
abbrev rmX5_stackOf : Room := { frames := 5, cells := 0, slots := 0, locals := 114 }
theorem inX5_stackOf_X5 : ∀ w ∈ wsX50, w ∈ wsX5_stackOf := by decide +kernel
theorem lkX5_stackOf_38 : Cond.fieldLink RX5 38 "GaugeBlocksModel" (TX5 5).2.1 (TX5 5).2.2.1 ∈ wsX5_stackOf := by decide +kernel
theorem hdX5_stackOf : yX5_stackOf.cls = RX5 ∧ yX5_stackOf.cls ≠ "java/lang/invoke/MethodHandle" ∧ yX5_stackOf.cls ≠ "java/lang/invoke/VarHandle" ∧ (parseMethodDescriptor yX5_stackOf.desc).map (fun d => d.parameters.length) = some 2 := by decide +kernel
def fX5_stackOf (N : Nat) (v : VM) (p1 : Int32) (p2 : Int32) : Option (VM × Int32) := ((fX5_isStack N p1).bind fun r1 => (if r1 = true then ((fX5_in N p2 0 6).bind fun r2 => (if r2 = true then ((fX5_ofStack N ((mRow v), (mSav v), (mSvn v), (mSnp v), (mKep v), 0, (mFre v), (mFrn v), (mBuf v), (mLen v), (mSpt v), (mNum v), (mOrd v), (mLet v), (mFst v), (mSnd v), (mTok v), (mLft v)) p1 p2).bind fun r4 => some (((mRow v), (mSav v), (mSvn v), (mSnp v), (mKep v), 0, (mFre v), (mFrn v), (mBuf v), (mLen v), (mSpt v), (mNum v), (mOrd v), (mLet v), (mFst v), (mSnd v), (mTok v), (mLft v)), r4)) else ((fX5_fails N ((mRow v), (mSav v), (mSvn v), (mSnp v), (mKep v), 0, (mFre v), (mFrn v), (mBuf v), (mLen v), (mSpt v), (mNum v), (mOrd v), (mLet v), (mFst v), (mSnd v), (mTok v), (mLft v)) 2).bind fun r3 => some (r3.1, r3.2)))) else ((fX5_fails N ((mRow v), (mSav v), (mSvn v), (mSnp v), (mKep v), 0, (mFre v), (mFrn v), (mBuf v), (mLen v), (mSpt v), (mNum v), (mOrd v), (mLet v), (mFst v), (mSnd v), (mTok v), (mLft v)) 1).bind fun r5 => some (r5.1, r5.2))))
set_option maxRecDepth 100000 in
set_option maxHeartbeats 4000000 in
theorem wkX5_stackOf {k : Kt} (C : gC k cX5_stackOf 3 RX5 wsX5_stackOf rmX5_stackOf "stackOf") (N : Nat) (aM : Nat → Nat) (v : VM) (p1 : Int32) (p2 : Int32) (r : VM × Int32) (hf : fX5_stackOf N v p1 p2 = some r) (E : gE k (wM (kD k) aM v) (fun rv w => rv = some (.int r.2) ∧ w = (wM (kD k) aM r.1)) (fun _ _ => False) 0 0 (some .int) []) : gG k (wM (kD k) aM v) [(0, .ref (aM 0)), (1, .int p1), (2, .int p2)] 0 0 0 [] := by
  unfold fX5_stackOf at hf
  refine g_aload_n (pc := 0) (x := (aM 0)) C dX5_stackOf_0 rfl ?_
  refine g_iconst (pc := 1) (v := 0) C dX5_stackOf_1 (by decide) ?_
  refine g_putf (pc := 2) C 0 rfl rfl inX5_stackOf_X5 tyX5 tyX5_ok nmX5 5 (by decide) lkX5_stackOf_38 rfl rfl pfX5_5 rfl rfl (Nat.le_of_ble_eq_true rfl) dX5_stackOf_2 (ws' := (wM (kD k) aM ((mRow v), (mSav v), (mSvn v), (mSnp v), (mKep v), 0, (mFre v), (mFrn v), (mBuf v), (mLen v), (mSpt v), (mNum v), (mOrd v), (mLet v), (mFst v), (mSnd v), (mTok v), (mLft v)))) rfl ?_
  refine g_iload_n (pc := 5) (x := p1) C dX5_stackOf_5 rfl ?_
  refine g_callR (pc' := 9) (cs' := 0) (sl' := 0) hf C (fun u => some (.int (b2i u))) (fun u hu => gr_S (rest := []) C (cX5_isStack_ (kL k) C.tr (kD k) N p1 u hu) (fun ht => va_cwS 1 ht gX5_stackOf_X5_isStack rfl rfl rfl hsX5_isStack ⟨(Nat.le_of_ble_eq_true rfl), (Nat.le_of_ble_eq_true rfl)⟩) [] rfl (by decide) rfl rfl (Nat.le_of_ble_eq_true rfl) dX5_stackOf_6 ⟨(Nat.le_of_ble_eq_true rfl), (Nat.le_of_ble_eq_true rfl)⟩) [] rfl rfl rfl rfl (fun u => [.int (b2i u)]) (fun u => rfl) (fun r1 hf => ?_)
  refine g_ifB_ne (pc := 9) (tgt := 18) (b := r1) hf C dX5_stackOf_9 (by decide) (fun hf => ?_) (fun hf => ?_)
  · refine g_iload_n (pc := 18) (x := p2) C dX5_stackOf_18 rfl ?_
    refine g_iconst (pc := 19) (v := 0) C dX5_stackOf_19 (by decide) ?_
    refine g_bipush (pc := 20) (v := 6) C dX5_stackOf_20 (by decide) ?_
    refine g_callR (pc' := 25) (cs' := 0) (sl' := 0) hf C (fun u => some (.int (b2i u))) (fun u hu => gr_S (rest := []) C (cX5_in_ (kL k) C.tr (kD k) N p2 0 6 u hu) (fun ht => va_cwS 3 ht gX5_stackOf_X5_in rfl rfl rfl hsX5_in ⟨(Nat.le_of_ble_eq_true rfl), (Nat.le_of_ble_eq_true rfl)⟩) [] rfl (by decide) rfl rfl (Nat.le_of_ble_eq_true rfl) dX5_stackOf_22 ⟨(Nat.le_of_ble_eq_true rfl), (Nat.le_of_ble_eq_true rfl)⟩) [] rfl rfl rfl rfl (fun u => [.int (b2i u)]) (fun u => rfl) (fun r2 hf => ?_)
    refine g_ifB_eq (pc := 25) (tgt := 37) (b := r2) hf C dX5_stackOf_25 (by decide) (fun hf => ?_) (fun hf => ?_)
    · refine g_aload_n (pc := 37) (x := (aM 0)) C dX5_stackOf_37 rfl ?_
      refine g_iconst (pc := 38) (v := 2) C dX5_stackOf_38 (by decide) ?_
      refine g_callW (wr := []) (pc' := 42) (cs' := 0) (sl' := 0) hf C (fun u => some (.int u.2)) (fun u => (wM (kD k) aM u.1)) (fun u hu => gr_V (rest := []) C (cX5_fails_ (kL k) C.tr (kD k) N aM ((mRow v), (mSav v), (mSvn v), (mSnp v), (mKep v), 0, (mFre v), (mFrn v), (mBuf v), (mLen v), (mSpt v), (mNum v), (mOrd v), (mLet v), (mFst v), (mSnd v), (mTok v), (mLft v)) 2 u hu) (fun ht => cwV 1 ht gX5_stackOf_X5_fails rfl rfl rfl hdX5_fails ⟨(Nat.le_of_ble_eq_true rfl), (Nat.le_of_ble_eq_true rfl)⟩) 0 rfl rfl [0, 1, 2, 3, 4, 5, 6, 7, 8, 9] rfl (by decide) rfl rfl (Nat.le_of_ble_eq_true rfl) dX5_stackOf_39 ⟨(Nat.le_of_ble_eq_true rfl), (Nat.le_of_ble_eq_true rfl)⟩) [0, 1, 2, 3, 4, 5, 6, 7, 8, 9] [] rfl rfl (by decide) (by decide) [0, 1, 2, 3, 4, 5, 6, 7, 8, 9] (by decide) (ws' := fun u => (wM (kD k) aM u.1)) (fun u => rfl) rfl rfl rfl (fun u => [.int u.2]) (fun u => rfl) (fun r3 hf => ?_)
      obtain rfl := Option.some.inj hf
      exact g_iret (v := r3.2) C E dX5_stackOf_42 (Nat.le_of_ble_eq_true rfl) (Nat.le_of_ble_eq_true rfl) ⟨rfl, rfl⟩
    · refine g_aload_n (pc := 28) (x := (aM 0)) C dX5_stackOf_28 rfl ?_
      refine g_iload_n (pc := 29) (x := p1) C dX5_stackOf_29 rfl ?_
      refine g_iload_n (pc := 30) (x := p2) C dX5_stackOf_30 rfl ?_
      refine g_callR (pc' := 34) (cs' := 0) (sl' := 0) hf C (fun u => some (.int u)) (fun u hu => gr_V (rest := []) C (cX5_ofStack_ (kL k) C.tr (kD k) N aM ((mRow v), (mSav v), (mSvn v), (mSnp v), (mKep v), 0, (mFre v), (mFrn v), (mBuf v), (mLen v), (mSpt v), (mNum v), (mOrd v), (mLet v), (mFst v), (mSnd v), (mTok v), (mLft v)) p1 p2 u hu) (fun ht => cwV 2 ht gX5_stackOf_X5_ofStack rfl rfl rfl hdX5_ofStack ⟨(Nat.le_of_ble_eq_true rfl), (Nat.le_of_ble_eq_true rfl)⟩) 0 rfl rfl [0, 1, 2, 3, 4, 5, 6, 7, 8, 9] rfl (by decide) rfl rfl (Nat.le_of_ble_eq_true rfl) dX5_stackOf_31 ⟨(Nat.le_of_ble_eq_true rfl), (Nat.le_of_ble_eq_true rfl)⟩) [0, 1, 2, 3, 4, 5, 6, 7, 8, 9] rfl rfl rfl rfl (fun u => [.int u]) (fun u => rfl) (fun r4 hf => ?_)
      refine g_goto (pc := 34) (tgt := 42) C dX5_stackOf_34 (by decide) ?_
      obtain rfl := Option.some.inj hf
      exact g_iret (v := r4) C E dX5_stackOf_42 (Nat.le_of_ble_eq_true rfl) (Nat.le_of_ble_eq_true rfl) ⟨rfl, rfl⟩
  · refine g_aload_n (pc := 12) (x := (aM 0)) C dX5_stackOf_12 rfl ?_
    refine g_iconst (pc := 13) (v := 1) C dX5_stackOf_13 (by decide) ?_
    refine g_callW (wr := []) (pc' := 17) (cs' := 0) (sl' := 0) hf C (fun u => some (.int u.2)) (fun u => (wM (kD k) aM u.1)) (fun u hu => gr_V (rest := []) C (cX5_fails_ (kL k) C.tr (kD k) N aM ((mRow v), (mSav v), (mSvn v), (mSnp v), (mKep v), 0, (mFre v), (mFrn v), (mBuf v), (mLen v), (mSpt v), (mNum v), (mOrd v), (mLet v), (mFst v), (mSnd v), (mTok v), (mLft v)) 1 u hu) (fun ht => cwV 1 ht gX5_stackOf_X5_fails rfl rfl rfl hdX5_fails ⟨(Nat.le_of_ble_eq_true rfl), (Nat.le_of_ble_eq_true rfl)⟩) 0 rfl rfl [0, 1, 2, 3, 4, 5, 6, 7, 8, 9] rfl (by decide) rfl rfl (Nat.le_of_ble_eq_true rfl) dX5_stackOf_14 ⟨(Nat.le_of_ble_eq_true rfl), (Nat.le_of_ble_eq_true rfl)⟩) [0, 1, 2, 3, 4, 5, 6, 7, 8, 9] [] rfl rfl (by decide) (by decide) [0, 1, 2, 3, 4, 5, 6, 7, 8, 9] (by decide) (ws' := fun u => (wM (kD k) aM u.1)) (fun u => rfl) rfl rfl rfl (fun u => [.int u.2]) (fun u => rfl) (fun r5 hf => ?_)
    obtain rfl := Option.some.inj hf
    exact g_iret (v := r5.2) C E dX5_stackOf_17 (Nat.le_of_ble_eq_true rfl) (Nat.le_of_ble_eq_true rfl) ⟨rfl, rfl⟩
set_option maxRecDepth 100000 in
set_option maxHeartbeats 4000000 in
theorem cX5_stackOf_ (l : Launch) (htr : l.stackTraces = false) (D : va_G) (N : Nat) (aM : Nat → Nat) (v : VM) (p1 : Int32) (p2 : Int32) (r : VM × Int32) (hf : fX5_stackOf N v p1 p2 = some r) : Tc l D yX5_stackOf wsX5_stackOf rmX5_stackOf [.ref (aM 0), .int p1, .int p2] (wM D aM v) (fun rv w => rv = some (.int r.2) ∧ w = (wM D aM r.1)) (fun _ _ => False) 0 0 := Tc_of htr (by decide +kernel) rfl (Nat.le_of_ble_eq_true rfl) (fun k C E hl hD => by subst hD; exact wkX5_stackOf C N aM v p1 p2 r hf E)
abbrev rmX5_keyOf : Room := { frames := 2, cells := 0, slots := 0, locals := 43 }
theorem hdX5_keyOf : yX5_keyOf.cls = RX5 ∧ yX5_keyOf.cls ≠ "java/lang/invoke/MethodHandle" ∧ yX5_keyOf.cls ≠ "java/lang/invoke/VarHandle" ∧ (parseMethodDescriptor yX5_keyOf.desc).map (fun d => d.parameters.length) = some 2 := by decide +kernel
def fX5_keyOf (N : Nat) (v : VM) (p1 : Int32) (p2 : Int32) : Option (Int32) := (if p2 = (0 : Int32) then ((fX5_of N v p1 0).bind fun r4 => some (-r4)) else (if p2 = (1 : Int32) then ((fX5_of N v p1 3).bind fun r3 => some r3) else ((fX5_error N v p1).bind fun r1 => ((fX5_size N r1).bind fun r2 => some r2))))
set_option maxRecDepth 100000 in
set_option maxHeartbeats 4000000 in
theorem wkX5_keyOf {k : Kt} (C : gC k cX5_keyOf 3 RX5 wsX5_keyOf rmX5_keyOf "keyOf") (N : Nat) (aM : Nat → Nat) (v : VM) (p1 : Int32) (p2 : Int32) (r : Int32) (hf : fX5_keyOf N v p1 p2 = some r) (E : gE k (wM (kD k) aM v) (fun rv w => rv = some (.int r) ∧ w = (wM (kD k) aM v)) (fun _ _ => False) 0 0 (some .int) []) : gG k (wM (kD k) aM v) [(0, .ref (aM 0)), (1, .int p1), (2, .int p2)] 0 0 0 [] := by
  unfold fX5_keyOf at hf
  refine g_iload_n (pc := 0) (x := p2) C dX5_keyOf_0 rfl ?_
  refine g_if_ne (pc := 1) (tgt := 14) (x := p2) hf C dX5_keyOf_1 (by decide) (fun hf => ?_) (fun hf => ?_)
  · refine g_iload_n (pc := 14) (x := p2) C dX5_keyOf_14 rfl ?_
    refine g_iconst (pc := 15) (v := 1) C dX5_keyOf_15 (by decide) ?_
    refine g_icmp_ne (pc := 16) (tgt := 28) (x := p2) (y := 1) hf C dX5_keyOf_16 (by decide) (fun hf => ?_) (fun hf => ?_)
    · refine g_aload_n (pc := 28) (x := (aM 0)) C dX5_keyOf_28 rfl ?_
      refine g_iload_n (pc := 29) (x := p1) C dX5_keyOf_29 rfl ?_
      refine g_callR (pc' := 33) (cs' := 0) (sl' := 0) hf C (fun u => some (.int u)) (fun u hu => gr_V (rest := []) C (cX5_error_ (kL k) C.tr (kD k) N aM v p1 u hu) (fun ht => cwV 1 ht gX5_keyOf_X5_error rfl rfl rfl hdX5_error ⟨(Nat.le_of_ble_eq_true rfl), (Nat.le_of_ble_eq_true rfl)⟩) 0 rfl rfl [0, 1, 2, 3, 4, 5, 6, 7, 8, 9] rfl (by decide) rfl rfl (Nat.le_of_ble_eq_true rfl) dX5_keyOf_30 ⟨(Nat.le_of_ble_eq_true rfl), (Nat.le_of_ble_eq_true rfl)⟩) [0, 1, 2, 3, 4, 5, 6, 7, 8, 9] rfl rfl rfl rfl (fun u => [.int u]) (fun u => rfl) (fun r1 hf => ?_)
      refine g_callR (pc' := 36) (cs' := 0) (sl' := 0) hf C (fun u => some (.int u)) (fun u hu => gr_S (rest := []) C (cX5_size_ (kL k) C.tr (kD k) N r1 u hu) (fun ht => va_cwS 1 ht gX5_keyOf_X5_size rfl rfl rfl hsX5_size ⟨(Nat.le_of_ble_eq_true rfl), (Nat.le_of_ble_eq_true rfl)⟩) [] rfl (by decide) rfl rfl (Nat.le_of_ble_eq_true rfl) dX5_keyOf_33 ⟨(Nat.le_of_ble_eq_true rfl), (Nat.le_of_ble_eq_true rfl)⟩) [] rfl rfl rfl rfl (fun u => [.int u]) (fun u => rfl) (fun r2 hf => ?_)
      obtain rfl := Option.some.inj hf
      exact g_iret (v := r2) C E dX5_keyOf_36 (Nat.le_of_ble_eq_true rfl) (Nat.le_of_ble_eq_true rfl) ⟨rfl, rfl⟩
    · refine g_aload_n (pc := 19) (x := (aM 0)) C dX5_keyOf_19 rfl ?_
      refine g_iload_n (pc := 20) (x := p1) C dX5_keyOf_20 rfl ?_
      refine g_iconst (pc := 21) (v := 3) C dX5_keyOf_21 (by decide) ?_
      refine g_callR (pc' := 25) (cs' := 0) (sl' := 0) hf C (fun u => some (.int u)) (fun u hu => gr_V (rest := []) C (cX5_of_ (kL k) C.tr (kD k) N aM v p1 3 u hu) (fun ht => cwV 2 ht gX5_keyOf_X5_of rfl rfl rfl hdX5_of ⟨(Nat.le_of_ble_eq_true rfl), (Nat.le_of_ble_eq_true rfl)⟩) 0 rfl rfl [0, 1, 2, 3, 4, 5, 6, 7, 8, 9] rfl (by decide) rfl rfl (Nat.le_of_ble_eq_true rfl) dX5_keyOf_22 ⟨(Nat.le_of_ble_eq_true rfl), (Nat.le_of_ble_eq_true rfl)⟩) [0, 1, 2, 3, 4, 5, 6, 7, 8, 9] rfl rfl rfl rfl (fun u => [.int u]) (fun u => rfl) (fun r3 hf => ?_)
      refine g_goto (pc := 25) (tgt := 36) C dX5_keyOf_25 (by decide) ?_
      obtain rfl := Option.some.inj hf
      exact g_iret (v := r3) C E dX5_keyOf_36 (Nat.le_of_ble_eq_true rfl) (Nat.le_of_ble_eq_true rfl) ⟨rfl, rfl⟩
  · refine g_aload_n (pc := 4) (x := (aM 0)) C dX5_keyOf_4 rfl ?_
    refine g_iload_n (pc := 5) (x := p1) C dX5_keyOf_5 rfl ?_
    refine g_iconst (pc := 6) (v := 0) C dX5_keyOf_6 (by decide) ?_
    refine g_callR (pc' := 10) (cs' := 0) (sl' := 0) hf C (fun u => some (.int u)) (fun u hu => gr_V (rest := []) C (cX5_of_ (kL k) C.tr (kD k) N aM v p1 0 u hu) (fun ht => cwV 2 ht gX5_keyOf_X5_of rfl rfl rfl hdX5_of ⟨(Nat.le_of_ble_eq_true rfl), (Nat.le_of_ble_eq_true rfl)⟩) 0 rfl rfl [0, 1, 2, 3, 4, 5, 6, 7, 8, 9] rfl (by decide) rfl rfl (Nat.le_of_ble_eq_true rfl) dX5_keyOf_7 ⟨(Nat.le_of_ble_eq_true rfl), (Nat.le_of_ble_eq_true rfl)⟩) [0, 1, 2, 3, 4, 5, 6, 7, 8, 9] rfl rfl rfl rfl (fun u => [.int u]) (fun u => rfl) (fun r4 hf => ?_)
    refine g_ineg (pc := 10) C dX5_keyOf_10 ?_
    refine g_goto (pc := 11) (tgt := 36) C dX5_keyOf_11 (by decide) ?_
    obtain rfl := Option.some.inj hf
    exact g_iret (v := (-r4)) C E dX5_keyOf_36 (Nat.le_of_ble_eq_true rfl) (Nat.le_of_ble_eq_true rfl) ⟨rfl, rfl⟩
set_option maxRecDepth 100000 in
set_option maxHeartbeats 4000000 in
theorem cX5_keyOf_ (l : Launch) (htr : l.stackTraces = false) (D : va_G) (N : Nat) (aM : Nat → Nat) (v : VM) (p1 : Int32) (p2 : Int32) (r : Int32) (hf : fX5_keyOf N v p1 p2 = some r) : Tc l D yX5_keyOf wsX5_keyOf rmX5_keyOf [.ref (aM 0), .int p1, .int p2] (wM D aM v) (fun rv w => rv = some (.int r) ∧ w = (wM D aM v)) (fun _ _ => False) 0 0 := Tc_of htr (by decide +kernel) rfl (Nat.le_of_ble_eq_true rfl) (fun k C E hl hD => by subst hD; exact wkX5_keyOf C N aM v p1 p2 r hf E)
abbrev rmX5_blockOfRank : Room := { frames := 3, cells := 0, slots := 0, locals := 65 }
theorem inX5_blockOfRank_X5 : ∀ w ∈ wsX50, w ∈ wsX5_blockOfRank := by decide +kernel
theorem lkX5_blockOfRank_7 : Cond.fieldLink RX5 7 "GaugeBlocksModel" (TX5 0).2.1 (TX5 0).2.2.1 ∈ wsX5_blockOfRank := by decide +kernel
theorem hdX5_blockOfRank : yX5_blockOfRank.cls = RX5 ∧ yX5_blockOfRank.cls ≠ "java/lang/invoke/MethodHandle" ∧ yX5_blockOfRank.cls ≠ "java/lang/invoke/VarHandle" ∧ (parseMethodDescriptor yX5_blockOfRank.desc).map (fun d => d.parameters.length) = some 2 := by decide +kernel
def lX5_blockOfRank_23 (N : Nat) (v : VM) (l1 : Int32) (l2 : Int32) (l3 : Int32) (l4 : Int32) : Nat → Int32 → Int32 → Option ((Int32))
  | 0, _, _ => none
  | n + 1, l5, l6 => ck 8 149 ((if ((mRow v) (Int32.toNatClampNeg 8)) ≤ l6 then some l5 else ((fX5_keyOf N v l6 l1).bind fun r1 => ((fX5_keyOf N v l4 l1).bind fun r2 => (if (0 : Int32) < (r1 - r2) then (lX5_blockOfRank_23 N v l1 l2 l3 l4 n (l5 + 1) (l6 + 1)) else (if (r1 - r2) = (0 : Int32) then (if l4 ≤ l6 then (lX5_blockOfRank_23 N v l1 l2 l3 l4 n (l5 + 0) (l6 + 1)) else (lX5_blockOfRank_23 N v l1 l2 l3 l4 n (l5 + 1) (l6 + 1))) else (lX5_blockOfRank_23 N v l1 l2 l3 l4 n (l5 + 0) (l6 + 1))))))))
set_option maxRecDepth 100000 in
set_option maxHeartbeats 4000000 in
theorem wlX5_blockOfRank_23 {k : Kt} (C : gC k cX5_blockOfRank 8 RX5 wsX5_blockOfRank rmX5_blockOfRank "blockOfRank") (N : Nat) (aM : Nat → Nat) (v : VM) (l1 : Int32) (l2 : Int32) (l3 : Int32) (l4 : Int32) : ∀ (n : Nat) (l5 : Int32) (l6 : Int32) (u : (Int32)) (hf : lX5_blockOfRank_23 N v l1 l2 l3 l4 n l5 l6 = some u) (hk0 : gG k (wM (kD k) aM v) [(0, .ref (aM 0)), (1, .int l1), (2, .int l2), (3, .int l3), (4, .int l4), (5, .int u)] 0 0 85 []), gG k (wM (kD k) aM v) [(0, .ref (aM 0)), (1, .int l1), (2, .int l2), (3, .int l3), (4, .int l4), (5, .int l5), (6, .int l6)] 0 0 23 [] := by
  intro n
  induction n with
  | zero => intro l5 l6 u hf hk0; rw [lX5_blockOfRank_23] at hf; cases hf
  | succ n ih =>
    intro l5 l6 u hf hk0
    rw [lX5_blockOfRank_23] at hf
    refine g_iload (pc := 23) (x := l6) C dX5_blockOfRank_23 rfl ?_
    refine g_aload_n (pc := 25) (x := (aM 0)) C dX5_blockOfRank_25 rfl ?_
    refine g_getf (pc := 26) C 0 rfl rfl inX5_blockOfRank_X5 0 (by decide) lkX5_blockOfRank_7 rfl rfl dX5_blockOfRank_26 ?_
    refine g_bipush (pc := 29) (v := 8) C dX5_blockOfRank_29 (by decide) ?_
    refine g_iald (pc := 31) (i := 8) hf C 1 rfl dX5_blockOfRank_31 (fun hf => ?_)
    refine g_icmp_ge (pc := 32) (tgt := 85) (x := l6) (y := ((mRow v) (Int32.toNatClampNeg 8))) hf C dX5_blockOfRank_32 (by decide) (fun hf => ?_) (fun hf => ?_)
    · obtain rfl := Option.some.inj hf
      refine g_lv [0, 1, 2, 3, 4, 5] (lv' := [(0, .ref (aM 0)), (1, .int l1), (2, .int l2), (3, .int l3), (4, .int l4), (5, .int l5)]) rfl ?_
      exact hk0
    · refine g_aload_n (pc := 35) (x := (aM 0)) C dX5_blockOfRank_35 rfl ?_
      refine g_iload (pc := 36) (x := l6) C dX5_blockOfRank_36 rfl ?_
      refine g_iload_n (pc := 38) (x := l1) C dX5_blockOfRank_38 rfl ?_
      refine g_callR (pc' := 42) (cs' := 0) (sl' := 0) hf C (fun u => some (.int u)) (fun u hu => gr_V (rest := []) C (cX5_keyOf_ (kL k) C.tr (kD k) N aM v l6 l1 u hu) (fun ht => cwV 2 ht gX5_blockOfRank_X5_keyOf rfl rfl rfl hdX5_keyOf ⟨(Nat.le_of_ble_eq_true rfl), (Nat.le_of_ble_eq_true rfl)⟩) 0 rfl rfl [0, 1, 2, 3, 4, 5, 6, 7, 8, 9] rfl (by decide) rfl rfl (Nat.le_of_ble_eq_true rfl) dX5_blockOfRank_39 ⟨(Nat.le_of_ble_eq_true rfl), (Nat.le_of_ble_eq_true rfl)⟩) [0, 1, 2, 3, 4, 5, 6, 7, 8, 9] rfl rfl rfl rfl (fun u => [.int u]) (fun u => rfl) (fun r1 hf => ?_)
      refine g_aload_n (pc := 42) (x := (aM 0)) C dX5_blockOfRank_42 rfl ?_
      refine g_iload (pc := 43) (x := l4) C dX5_blockOfRank_43 rfl ?_
      refine g_iload_n (pc := 45) (x := l1) C dX5_blockOfRank_45 rfl ?_
      refine g_callR (pc' := 49) (cs' := 0) (sl' := 0) hf C (fun u => some (.int u)) (fun u hu => gr_V (rest := [.int r1]) C (cX5_keyOf_ (kL k) C.tr (kD k) N aM v l4 l1 u hu) (fun ht => cwV 2 ht gX5_blockOfRank_X5_keyOf rfl rfl rfl hdX5_keyOf ⟨(Nat.le_of_ble_eq_true rfl), (Nat.le_of_ble_eq_true rfl)⟩) 0 rfl rfl [0, 1, 2, 3, 4, 5, 6, 7, 8, 9] rfl (by decide) rfl rfl (Nat.le_of_ble_eq_true rfl) dX5_blockOfRank_46 ⟨(Nat.le_of_ble_eq_true rfl), (Nat.le_of_ble_eq_true rfl)⟩) [0, 1, 2, 3, 4, 5, 6, 7, 8, 9] rfl rfl rfl rfl (fun u => [.int u, .int r1]) (fun u => rfl) (fun r2 hf => ?_)
      refine g_isub (pc := 49) (x := r1) (y := r2) C dX5_blockOfRank_49 ?_
      refine g_istore (pc := 50) (lv' := [(7, .int (r1 - r2)), (0, .ref (aM 0)), (1, .int l1), (2, .int l2), (3, .int l3), (4, .int l4), (5, .int l5), (6, .int l6)]) C dX5_blockOfRank_50 (by decide) rfl ?_
      refine g_iload (pc := 52) (x := l5) C dX5_blockOfRank_52 rfl ?_
      refine g_iload (pc := 54) (x := (r1 - r2)) C dX5_blockOfRank_54 rfl ?_
      refine g_if_gt (pc := 56) (tgt := 71) (x := (r1 - r2)) hf C dX5_blockOfRank_56 (by decide) (fun hf => ?_) (fun hf => ?_)
      · refine g_iconst (pc := 71) (v := 1) C dX5_blockOfRank_71 (by decide) ?_
        refine g_goto (pc := 72) (tgt := 76) C dX5_blockOfRank_72 (by decide) ?_
        refine g_iadd (pc := 76) (x := l5) (y := 1) C dX5_blockOfRank_76 ?_
        refine g_istore (pc := 77) (lv' := [(5, .int (l5 + 1)), (7, .int (r1 - r2)), (0, .ref (aM 0)), (1, .int l1), (2, .int l2), (3, .int l3), (4, .int l4), (6, .int l6)]) C dX5_blockOfRank_77 (by decide) rfl ?_
        refine g_iinc (pc := 79) (x := l6) (v := (l6 + 1)) (lv' := [(6, .int (l6 + 1)), (5, .int (l5 + 1)), (7, .int (r1 - r2)), (0, .ref (aM 0)), (1, .int l1), (2, .int l2), (3, .int l3), (4, .int l4)]) C dX5_blockOfRank_79 rfl rfl (by decide) rfl ?_
        refine g_goto (pc := 82) (tgt := 23) C dX5_blockOfRank_82 (by decide) ?_
        refine g_lv [3, 4, 5, 6, 7, 1, 0] (lv' := [(0, .ref (aM 0)), (1, .int l1), (2, .int l2), (3, .int l3), (4, .int l4), (5, .int (l5 + 1)), (6, .int (l6 + 1))]) rfl ?_
        exact ih (l5 + 1) (l6 + 1) u hf hk0
      · refine g_iload (pc := 59) (x := (r1 - r2)) C dX5_blockOfRank_59 rfl ?_
        refine g_if_ne (pc := 61) (tgt := 75) (x := (r1 - r2)) hf C dX5_blockOfRank_61 (by decide) (fun hf => ?_) (fun hf => ?_)
        · refine g_iconst (pc := 75) (v := 0) C dX5_blockOfRank_75 (by decide) ?_
          refine g_iadd (pc := 76) (x := l5) (y := 0) C dX5_blockOfRank_76 ?_
          refine g_istore (pc := 77) (lv' := [(5, .int (l5 + 0)), (7, .int (r1 - r2)), (0, .ref (aM 0)), (1, .int l1), (2, .int l2), (3, .int l3), (4, .int l4), (6, .int l6)]) C dX5_blockOfRank_77 (by decide) rfl ?_
          refine g_iinc (pc := 79) (x := l6) (v := (l6 + 1)) (lv' := [(6, .int (l6 + 1)), (5, .int (l5 + 0)), (7, .int (r1 - r2)), (0, .ref (aM 0)), (1, .int l1), (2, .int l2), (3, .int l3), (4, .int l4)]) C dX5_blockOfRank_79 rfl rfl (by decide) rfl ?_
          refine g_goto (pc := 82) (tgt := 23) C dX5_blockOfRank_82 (by decide) ?_
          refine g_lv [3, 4, 5, 6, 7, 1, 0] (lv' := [(0, .ref (aM 0)), (1, .int l1), (2, .int l2), (3, .int l3), (4, .int l4), (5, .int (l5 + 0)), (6, .int (l6 + 1))]) rfl ?_
          exact ih (l5 + 0) (l6 + 1) u hf hk0
        · refine g_iload (pc := 64) (x := l6) C dX5_blockOfRank_64 rfl ?_
          refine g_iload (pc := 66) (x := l4) C dX5_blockOfRank_66 rfl ?_
          refine g_icmp_ge (pc := 68) (tgt := 75) (x := l6) (y := l4) hf C dX5_blockOfRank_68 (by decide) (fun hf => ?_) (fun hf => ?_)
          · refine g_iconst (pc := 75) (v := 0) C dX5_blockOfRank_75 (by decide) ?_
            refine g_iadd (pc := 76) (x := l5) (y := 0) C dX5_blockOfRank_76 ?_
            refine g_istore (pc := 77) (lv' := [(5, .int (l5 + 0)), (7, .int (r1 - r2)), (0, .ref (aM 0)), (1, .int l1), (2, .int l2), (3, .int l3), (4, .int l4), (6, .int l6)]) C dX5_blockOfRank_77 (by decide) rfl ?_
            refine g_iinc (pc := 79) (x := l6) (v := (l6 + 1)) (lv' := [(6, .int (l6 + 1)), (5, .int (l5 + 0)), (7, .int (r1 - r2)), (0, .ref (aM 0)), (1, .int l1), (2, .int l2), (3, .int l3), (4, .int l4)]) C dX5_blockOfRank_79 rfl rfl (by decide) rfl ?_
            refine g_goto (pc := 82) (tgt := 23) C dX5_blockOfRank_82 (by decide) ?_
            refine g_lv [3, 4, 5, 6, 7, 1, 0] (lv' := [(0, .ref (aM 0)), (1, .int l1), (2, .int l2), (3, .int l3), (4, .int l4), (5, .int (l5 + 0)), (6, .int (l6 + 1))]) rfl ?_
            exact ih (l5 + 0) (l6 + 1) u hf hk0
          · refine g_iconst (pc := 71) (v := 1) C dX5_blockOfRank_71 (by decide) ?_
            refine g_goto (pc := 72) (tgt := 76) C dX5_blockOfRank_72 (by decide) ?_
            refine g_iadd (pc := 76) (x := l5) (y := 1) C dX5_blockOfRank_76 ?_
            refine g_istore (pc := 77) (lv' := [(5, .int (l5 + 1)), (7, .int (r1 - r2)), (0, .ref (aM 0)), (1, .int l1), (2, .int l2), (3, .int l3), (4, .int l4), (6, .int l6)]) C dX5_blockOfRank_77 (by decide) rfl ?_
            refine g_iinc (pc := 79) (x := l6) (v := (l6 + 1)) (lv' := [(6, .int (l6 + 1)), (5, .int (l5 + 1)), (7, .int (r1 - r2)), (0, .ref (aM 0)), (1, .int l1), (2, .int l2), (3, .int l3), (4, .int l4)]) C dX5_blockOfRank_79 rfl rfl (by decide) rfl ?_
            refine g_goto (pc := 82) (tgt := 23) C dX5_blockOfRank_82 (by decide) ?_
            refine g_lv [3, 4, 5, 6, 7, 1, 0] (lv' := [(0, .ref (aM 0)), (1, .int l1), (2, .int l2), (3, .int l3), (4, .int l4), (5, .int (l5 + 1)), (6, .int (l6 + 1))]) rfl ?_
            exact ih (l5 + 1) (l6 + 1) u hf hk0
def lX5_blockOfRank_5 (N : Nat) (v : VM) (l1 : Int32) (l2 : Int32) : Nat → Int32 → Int32 → Option ((Int32))
  | 0, _, _ => none
  | n + 1, l3, l4 => ck 8 149 ((if ((mRow v) (Int32.toNatClampNeg 8)) ≤ l4 then some l3 else ((lX5_blockOfRank_23 N v l1 l2 l3 l4 N 0 0).bind fun r1 => (if r1 = l2 then (lX5_blockOfRank_5 N v l1 l2 n l4 (l4 + 1)) else (lX5_blockOfRank_5 N v l1 l2 n l3 (l4 + 1))))))
set_option maxRecDepth 100000 in
set_option maxHeartbeats 4000000 in
theorem wlX5_blockOfRank_5 {k : Kt} (C : gC k cX5_blockOfRank 8 RX5 wsX5_blockOfRank rmX5_blockOfRank "blockOfRank") (N : Nat) (aM : Nat → Nat) (v : VM) (l1 : Int32) (l2 : Int32) : ∀ (n : Nat) (l3 : Int32) (l4 : Int32) (u : (Int32)) (hf : lX5_blockOfRank_5 N v l1 l2 n l3 l4 = some u) (hk0 : gG k (wM (kD k) aM v) [(3, .int u)] 0 0 104 []), gG k (wM (kD k) aM v) [(0, .ref (aM 0)), (1, .int l1), (2, .int l2), (3, .int l3), (4, .int l4)] 0 0 5 [] := by
  intro n
  induction n with
  | zero => intro l3 l4 u hf hk0; rw [lX5_blockOfRank_5] at hf; cases hf
  | succ n ih =>
    intro l3 l4 u hf hk0
    rw [lX5_blockOfRank_5] at hf
    refine g_iload (pc := 5) (x := l4) C dX5_blockOfRank_5 rfl ?_
    refine g_aload_n (pc := 7) (x := (aM 0)) C dX5_blockOfRank_7 rfl ?_
    refine g_getf (pc := 8) C 0 rfl rfl inX5_blockOfRank_X5 0 (by decide) lkX5_blockOfRank_7 rfl rfl dX5_blockOfRank_8 ?_
    refine g_bipush (pc := 11) (v := 8) C dX5_blockOfRank_11 (by decide) ?_
    refine g_iald (pc := 13) (i := 8) hf C 1 rfl dX5_blockOfRank_13 (fun hf => ?_)
    refine g_icmp_ge (pc := 14) (tgt := 104) (x := l4) (y := ((mRow v) (Int32.toNatClampNeg 8))) hf C dX5_blockOfRank_14 (by decide) (fun hf => ?_) (fun hf => ?_)
    · obtain rfl := Option.some.inj hf
      refine g_lv [3] (lv' := [(3, .int l3)]) rfl ?_
      exact hk0
    · refine g_iconst (pc := 17) (v := 0) C dX5_blockOfRank_17 (by decide) ?_
      refine g_istore (pc := 18) (lv' := [(5, .int 0), (0, .ref (aM 0)), (1, .int l1), (2, .int l2), (3, .int l3), (4, .int l4)]) C dX5_blockOfRank_18 (by decide) rfl ?_
      refine g_iconst (pc := 20) (v := 0) C dX5_blockOfRank_20 (by decide) ?_
      refine g_istore (pc := 21) (lv' := [(6, .int 0), (5, .int 0), (0, .ref (aM 0)), (1, .int l1), (2, .int l2), (3, .int l3), (4, .int l4)]) C dX5_blockOfRank_21 (by decide) rfl ?_
      obtain ⟨r1, h1, hf⟩ := bd_e hf
      refine g_lv [2, 3, 4, 5, 6, 1, 0] (lv' := [(0, .ref (aM 0)), (1, .int l1), (2, .int l2), (3, .int l3), (4, .int l4), (5, .int 0), (6, .int 0)]) rfl ?_
      refine wlX5_blockOfRank_23 C N aM v l1 l2 l3 l4 N 0 0 r1 h1 ?_
      refine g_iload (pc := 85) (x := r1) C dX5_blockOfRank_85 rfl ?_
      refine g_iload_n (pc := 87) (x := l2) C dX5_blockOfRank_87 rfl ?_
      refine g_icmp_ne (pc := 88) (tgt := 96) (x := r1) (y := l2) hf C dX5_blockOfRank_88 (by decide) (fun hf => ?_) (fun hf => ?_)
      · refine g_iload_n (pc := 96) (x := l3) C dX5_blockOfRank_96 rfl ?_
        refine g_istore_n (pc := 97) (lv' := [(3, .int l3), (0, .ref (aM 0)), (1, .int l1), (2, .int l2), (4, .int l4), (5, .int r1)]) C dX5_blockOfRank_97 (by decide) rfl ?_
        refine g_iinc (pc := 98) (x := l4) (v := (l4 + 1)) (lv' := [(4, .int (l4 + 1)), (3, .int l3), (0, .ref (aM 0)), (1, .int l1), (2, .int l2), (5, .int r1)]) C dX5_blockOfRank_98 rfl rfl (by decide) rfl ?_
        refine g_goto (pc := 101) (tgt := 5) C dX5_blockOfRank_101 (by decide) ?_
        refine g_lv [2, 3, 4, 1, 0] (lv' := [(0, .ref (aM 0)), (1, .int l1), (2, .int l2), (3, .int l3), (4, .int (l4 + 1))]) rfl ?_
        exact ih l3 (l4 + 1) u hf hk0
      · refine g_iload (pc := 91) (x := l4) C dX5_blockOfRank_91 rfl ?_
        refine g_goto (pc := 93) (tgt := 97) C dX5_blockOfRank_93 (by decide) ?_
        refine g_istore_n (pc := 97) (lv' := [(3, .int l4), (0, .ref (aM 0)), (1, .int l1), (2, .int l2), (4, .int l4), (5, .int r1)]) C dX5_blockOfRank_97 (by decide) rfl ?_
        refine g_iinc (pc := 98) (x := l4) (v := (l4 + 1)) (lv' := [(4, .int (l4 + 1)), (3, .int l4), (0, .ref (aM 0)), (1, .int l1), (2, .int l2), (5, .int r1)]) C dX5_blockOfRank_98 rfl rfl (by decide) rfl ?_
        refine g_goto (pc := 101) (tgt := 5) C dX5_blockOfRank_101 (by decide) ?_
        refine g_lv [2, 3, 4, 1, 0] (lv' := [(0, .ref (aM 0)), (1, .int l1), (2, .int l2), (3, .int l4), (4, .int (l4 + 1))]) rfl ?_
        exact ih l4 (l4 + 1) u hf hk0
def fX5_blockOfRank (N : Nat) (v : VM) (p1 : Int32) (p2 : Int32) : Option (Int32) := ((lX5_blockOfRank_5 N v p1 p2 N (-1) 0).bind fun r1 => some r1)
set_option maxRecDepth 100000 in
set_option maxHeartbeats 4000000 in
theorem wkX5_blockOfRank {k : Kt} (C : gC k cX5_blockOfRank 8 RX5 wsX5_blockOfRank rmX5_blockOfRank "blockOfRank") (N : Nat) (aM : Nat → Nat) (v : VM) (p1 : Int32) (p2 : Int32) (r : Int32) (hf : fX5_blockOfRank N v p1 p2 = some r) (E : gE k (wM (kD k) aM v) (fun rv w => rv = some (.int r) ∧ w = (wM (kD k) aM v)) (fun _ _ => False) 0 0 (some .int) []) : gG k (wM (kD k) aM v) [(0, .ref (aM 0)), (1, .int p1), (2, .int p2)] 0 0 0 [] := by
  unfold fX5_blockOfRank at hf
  refine g_iconst (pc := 0) (v := (-1)) C dX5_blockOfRank_0 (by decide) ?_
  refine g_istore_n (pc := 1) (lv' := [(3, .int (-1)), (0, .ref (aM 0)), (1, .int p1), (2, .int p2)]) C dX5_blockOfRank_1 (by decide) rfl ?_
  refine g_iconst (pc := 2) (v := 0) C dX5_blockOfRank_2 (by decide) ?_
  refine g_istore (pc := 3) (lv' := [(4, .int 0), (3, .int (-1)), (0, .ref (aM 0)), (1, .int p1), (2, .int p2)]) C dX5_blockOfRank_3 (by decide) rfl ?_
  obtain ⟨r1, h1, hf⟩ := bd_e hf
  refine g_lv [2, 3, 4, 1, 0] (lv' := [(0, .ref (aM 0)), (1, .int p1), (2, .int p2), (3, .int (-1)), (4, .int 0)]) rfl ?_
  refine wlX5_blockOfRank_5 C N aM v p1 p2 N (-1) 0 r1 h1 ?_
  refine g_iload_n (pc := 104) (x := r1) C dX5_blockOfRank_104 rfl ?_
  obtain rfl := Option.some.inj hf
  exact g_iret (v := r1) C E dX5_blockOfRank_105 (Nat.le_of_ble_eq_true rfl) (Nat.le_of_ble_eq_true rfl) ⟨rfl, rfl⟩
set_option maxRecDepth 100000 in
set_option maxHeartbeats 4000000 in
theorem cX5_blockOfRank_ (l : Launch) (htr : l.stackTraces = false) (D : va_G) (N : Nat) (aM : Nat → Nat) (v : VM) (p1 : Int32) (p2 : Int32) (r : Int32) (hf : fX5_blockOfRank N v p1 p2 = some r) : Tc l D yX5_blockOfRank wsX5_blockOfRank rmX5_blockOfRank [.ref (aM 0), .int p1, .int p2] (wM D aM v) (fun rv w => rv = some (.int r) ∧ w = (wM D aM v)) (fun _ _ => False) 0 0 := Tc_of htr (by decide +kernel) rfl (Nat.le_of_ble_eq_true rfl) (fun k C E hl hD => by subst hD; exact wkX5_blockOfRank C N aM v p1 p2 r hf E)
abbrev rmX5_ranked : Room := { frames := 4, cells := 0, slots := 0, locals := 92 }
theorem inX5_ranked_X5 : ∀ w ∈ wsX50, w ∈ wsX5_ranked := by decide +kernel
theorem lkX5_ranked_38 : Cond.fieldLink RX5 38 "GaugeBlocksModel" (TX5 5).2.1 (TX5 5).2.2.1 ∈ wsX5_ranked := by decide +kernel
theorem hdX5_ranked : yX5_ranked.cls = RX5 ∧ yX5_ranked.cls ≠ "java/lang/invoke/MethodHandle" ∧ yX5_ranked.cls ≠ "java/lang/invoke/VarHandle" ∧ (parseMethodDescriptor yX5_ranked.desc).map (fun d => d.parameters.length) = some 2 := by decide +kernel
def fX5_ranked (N : Nat) (v : VM) (p1 : Int32) (p2 : Int32) : Option (VM × Int32) := ((fX5_in N p1 0 2).bind fun r1 => (if r1 = true then (if p2 < (0 : Int32) then ((fX5_fails N ((mRow v), (mSav v), (mSvn v), (mSnp v), (mKep v), 0, (mFre v), (mFrn v), (mBuf v), (mLen v), (mSpt v), (mNum v), (mOrd v), (mLet v), (mFst v), (mSnd v), (mTok v), (mLft v)) 1).bind fun r3 => some (r3.1, r3.2)) else ((fX5_blockOfRank N ((mRow v), (mSav v), (mSvn v), (mSnp v), (mKep v), 0, (mFre v), (mFrn v), (mBuf v), (mLen v), (mSpt v), (mNum v), (mOrd v), (mLet v), (mFst v), (mSnd v), (mTok v), (mLft v)) p1 p2).bind fun r4 => some (((mRow v), (mSav v), (mSvn v), (mSnp v), (mKep v), 0, (mFre v), (mFrn v), (mBuf v), (mLen v), (mSpt v), (mNum v), (mOrd v), (mLet v), (mFst v), (mSnd v), (mTok v), (mLft v)), r4))) else ((fX5_fails N ((mRow v), (mSav v), (mSvn v), (mSnp v), (mKep v), 0, (mFre v), (mFrn v), (mBuf v), (mLen v), (mSpt v), (mNum v), (mOrd v), (mLet v), (mFst v), (mSnd v), (mTok v), (mLft v)) 1).bind fun r2 => some (r2.1, r2.2))))
set_option maxRecDepth 100000 in
set_option maxHeartbeats 4000000 in
theorem wkX5_ranked {k : Kt} (C : gC k cX5_ranked 3 RX5 wsX5_ranked rmX5_ranked "ranked") (N : Nat) (aM : Nat → Nat) (v : VM) (p1 : Int32) (p2 : Int32) (r : VM × Int32) (hf : fX5_ranked N v p1 p2 = some r) (E : gE k (wM (kD k) aM v) (fun rv w => rv = some (.int r.2) ∧ w = (wM (kD k) aM r.1)) (fun _ _ => False) 0 0 (some .int) []) : gG k (wM (kD k) aM v) [(0, .ref (aM 0)), (1, .int p1), (2, .int p2)] 0 0 0 [] := by
  unfold fX5_ranked at hf
  refine g_aload_n (pc := 0) (x := (aM 0)) C dX5_ranked_0 rfl ?_
  refine g_iconst (pc := 1) (v := 0) C dX5_ranked_1 (by decide) ?_
  refine g_putf (pc := 2) C 0 rfl rfl inX5_ranked_X5 tyX5 tyX5_ok nmX5 5 (by decide) lkX5_ranked_38 rfl rfl pfX5_5 rfl rfl (Nat.le_of_ble_eq_true rfl) dX5_ranked_2 (ws' := (wM (kD k) aM ((mRow v), (mSav v), (mSvn v), (mSnp v), (mKep v), 0, (mFre v), (mFrn v), (mBuf v), (mLen v), (mSpt v), (mNum v), (mOrd v), (mLet v), (mFst v), (mSnd v), (mTok v), (mLft v)))) rfl ?_
  refine g_iload_n (pc := 5) (x := p1) C dX5_ranked_5 rfl ?_
  refine g_iconst (pc := 6) (v := 0) C dX5_ranked_6 (by decide) ?_
  refine g_iconst (pc := 7) (v := 2) C dX5_ranked_7 (by decide) ?_
  refine g_callR (pc' := 11) (cs' := 0) (sl' := 0) hf C (fun u => some (.int (b2i u))) (fun u hu => gr_S (rest := []) C (cX5_in_ (kL k) C.tr (kD k) N p1 0 2 u hu) (fun ht => va_cwS 3 ht gX5_ranked_X5_in rfl rfl rfl hsX5_in ⟨(Nat.le_of_ble_eq_true rfl), (Nat.le_of_ble_eq_true rfl)⟩) [] rfl (by decide) rfl rfl (Nat.le_of_ble_eq_true rfl) dX5_ranked_8 ⟨(Nat.le_of_ble_eq_true rfl), (Nat.le_of_ble_eq_true rfl)⟩) [] rfl rfl rfl rfl (fun u => [.int (b2i u)]) (fun u => rfl) (fun r1 hf => ?_)
  refine g_ifB_eq (pc := 11) (tgt := 27) (b := r1) hf C dX5_ranked_11 (by decide) (fun hf => ?_) (fun hf => ?_)
  · refine g_aload_n (pc := 27) (x := (aM 0)) C dX5_ranked_27 rfl ?_
    refine g_iconst (pc := 28) (v := 1) C dX5_ranked_28 (by decide) ?_
    refine g_callW (wr := []) (pc' := 32) (cs' := 0) (sl' := 0) hf C (fun u => some (.int u.2)) (fun u => (wM (kD k) aM u.1)) (fun u hu => gr_V (rest := []) C (cX5_fails_ (kL k) C.tr (kD k) N aM ((mRow v), (mSav v), (mSvn v), (mSnp v), (mKep v), 0, (mFre v), (mFrn v), (mBuf v), (mLen v), (mSpt v), (mNum v), (mOrd v), (mLet v), (mFst v), (mSnd v), (mTok v), (mLft v)) 1 u hu) (fun ht => cwV 1 ht gX5_ranked_X5_fails rfl rfl rfl hdX5_fails ⟨(Nat.le_of_ble_eq_true rfl), (Nat.le_of_ble_eq_true rfl)⟩) 0 rfl rfl [0, 1, 2, 3, 4, 5, 6, 7, 8, 9] rfl (by decide) rfl rfl (Nat.le_of_ble_eq_true rfl) dX5_ranked_29 ⟨(Nat.le_of_ble_eq_true rfl), (Nat.le_of_ble_eq_true rfl)⟩) [0, 1, 2, 3, 4, 5, 6, 7, 8, 9] [] rfl rfl (by decide) (by decide) [0, 1, 2, 3, 4, 5, 6, 7, 8, 9] (by decide) (ws' := fun u => (wM (kD k) aM u.1)) (fun u => rfl) rfl rfl rfl (fun u => [.int u.2]) (fun u => rfl) (fun r2 hf => ?_)
    obtain rfl := Option.some.inj hf
    exact g_iret (v := r2.2) C E dX5_ranked_32 (Nat.le_of_ble_eq_true rfl) (Nat.le_of_ble_eq_true rfl) ⟨rfl, rfl⟩
  · refine g_iload_n (pc := 14) (x := p2) C dX5_ranked_14 rfl ?_
    refine g_if_lt (pc := 15) (tgt := 27) (x := p2) hf C dX5_ranked_15 (by decide) (fun hf => ?_) (fun hf => ?_)
    · refine g_aload_n (pc := 27) (x := (aM 0)) C dX5_ranked_27 rfl ?_
      refine g_iconst (pc := 28) (v := 1) C dX5_ranked_28 (by decide) ?_
      refine g_callW (wr := []) (pc' := 32) (cs' := 0) (sl' := 0) hf C (fun u => some (.int u.2)) (fun u => (wM (kD k) aM u.1)) (fun u hu => gr_V (rest := []) C (cX5_fails_ (kL k) C.tr (kD k) N aM ((mRow v), (mSav v), (mSvn v), (mSnp v), (mKep v), 0, (mFre v), (mFrn v), (mBuf v), (mLen v), (mSpt v), (mNum v), (mOrd v), (mLet v), (mFst v), (mSnd v), (mTok v), (mLft v)) 1 u hu) (fun ht => cwV 1 ht gX5_ranked_X5_fails rfl rfl rfl hdX5_fails ⟨(Nat.le_of_ble_eq_true rfl), (Nat.le_of_ble_eq_true rfl)⟩) 0 rfl rfl [0, 1, 2, 3, 4, 5, 6, 7, 8, 9] rfl (by decide) rfl rfl (Nat.le_of_ble_eq_true rfl) dX5_ranked_29 ⟨(Nat.le_of_ble_eq_true rfl), (Nat.le_of_ble_eq_true rfl)⟩) [0, 1, 2, 3, 4, 5, 6, 7, 8, 9] [] rfl rfl (by decide) (by decide) [0, 1, 2, 3, 4, 5, 6, 7, 8, 9] (by decide) (ws' := fun u => (wM (kD k) aM u.1)) (fun u => rfl) rfl rfl rfl (fun u => [.int u.2]) (fun u => rfl) (fun r3 hf => ?_)
      obtain rfl := Option.some.inj hf
      exact g_iret (v := r3.2) C E dX5_ranked_32 (Nat.le_of_ble_eq_true rfl) (Nat.le_of_ble_eq_true rfl) ⟨rfl, rfl⟩
    · refine g_aload_n (pc := 18) (x := (aM 0)) C dX5_ranked_18 rfl ?_
      refine g_iload_n (pc := 19) (x := p1) C dX5_ranked_19 rfl ?_
      refine g_iload_n (pc := 20) (x := p2) C dX5_ranked_20 rfl ?_
      refine g_callR (pc' := 24) (cs' := 0) (sl' := 0) hf C (fun u => some (.int u)) (fun u hu => gr_V (rest := []) C (cX5_blockOfRank_ (kL k) C.tr (kD k) N aM ((mRow v), (mSav v), (mSvn v), (mSnp v), (mKep v), 0, (mFre v), (mFrn v), (mBuf v), (mLen v), (mSpt v), (mNum v), (mOrd v), (mLet v), (mFst v), (mSnd v), (mTok v), (mLft v)) p1 p2 u hu) (fun ht => cwV 2 ht gX5_ranked_X5_blockOfRank rfl rfl rfl hdX5_blockOfRank ⟨(Nat.le_of_ble_eq_true rfl), (Nat.le_of_ble_eq_true rfl)⟩) 0 rfl rfl [0, 1, 2, 3, 4, 5, 6, 7, 8, 9] rfl (by decide) rfl rfl (Nat.le_of_ble_eq_true rfl) dX5_ranked_21 ⟨(Nat.le_of_ble_eq_true rfl), (Nat.le_of_ble_eq_true rfl)⟩) [0, 1, 2, 3, 4, 5, 6, 7, 8, 9] rfl rfl rfl rfl (fun u => [.int u]) (fun u => rfl) (fun r4 hf => ?_)
      refine g_goto (pc := 24) (tgt := 32) C dX5_ranked_24 (by decide) ?_
      obtain rfl := Option.some.inj hf
      exact g_iret (v := r4) C E dX5_ranked_32 (Nat.le_of_ble_eq_true rfl) (Nat.le_of_ble_eq_true rfl) ⟨rfl, rfl⟩
set_option maxRecDepth 100000 in
set_option maxHeartbeats 4000000 in
theorem cX5_ranked_ (l : Launch) (htr : l.stackTraces = false) (D : va_G) (N : Nat) (aM : Nat → Nat) (v : VM) (p1 : Int32) (p2 : Int32) (r : VM × Int32) (hf : fX5_ranked N v p1 p2 = some r) : Tc l D yX5_ranked wsX5_ranked rmX5_ranked [.ref (aM 0), .int p1, .int p2] (wM D aM v) (fun rv w => rv = some (.int r.2) ∧ w = (wM D aM r.1)) (fun _ _ => False) 0 0 := Tc_of htr (by decide +kernel) rfl (Nat.le_of_ble_eq_true rfl) (fun k C E hl hD => by subst hD; exact wkX5_ranked C N aM v p1 p2 r hf E)
abbrev rmX5_lengthBeyond : Room := { frames := 2, cells := 0, slots := 0, locals := 43 }
theorem inX5_lengthBeyond_X5 : ∀ w ∈ wsX50, w ∈ wsX5_lengthBeyond := by decide +kernel
theorem lkX5_lengthBeyond_7 : Cond.fieldLink RX5 7 "GaugeBlocksModel" (TX5 0).2.1 (TX5 0).2.2.1 ∈ wsX5_lengthBeyond := by decide +kernel
theorem hdX5_lengthBeyond : yX5_lengthBeyond.cls = RX5 ∧ yX5_lengthBeyond.cls ≠ "java/lang/invoke/MethodHandle" ∧ yX5_lengthBeyond.cls ≠ "java/lang/invoke/VarHandle" ∧ (parseMethodDescriptor yX5_lengthBeyond.desc).map (fun d => d.parameters.length) = some 1 := by decide +kernel
def lX5_lengthBeyond_4 (N : Nat) (v : VM) (l1 : Int32) : Nat → Int32 → Int32 → Option ((Int32))
  | 0, _, _ => none
  | n + 1, l2, l3 => ck 8 149 ((if ((mRow v) (Int32.toNatClampNeg 8)) ≤ l3 then some l2 else ((fX5_of N v l3 0).bind fun r1 => ((fX5_isFree N v l3).bind fun r2 => (if r2 = true then (if r1 ≤ l1 then (lX5_lengthBeyond_4 N v l1 n l2 (l3 + 1)) else (if l2 = ((-1) : Int32) then (lX5_lengthBeyond_4 N v l1 n r1 (l3 + 1)) else (if l2 ≤ r1 then (lX5_lengthBeyond_4 N v l1 n l2 (l3 + 1)) else (lX5_lengthBeyond_4 N v l1 n r1 (l3 + 1))))) else (lX5_lengthBeyond_4 N v l1 n l2 (l3 + 1)))))))
set_option maxRecDepth 100000 in
set_option maxHeartbeats 4000000 in
theorem wlX5_lengthBeyond_4 {k : Kt} (C : gC k cX5_lengthBeyond 5 RX5 wsX5_lengthBeyond rmX5_lengthBeyond "lengthBeyond") (N : Nat) (aM : Nat → Nat) (v : VM) (l1 : Int32) : ∀ (n : Nat) (l2 : Int32) (l3 : Int32) (u : (Int32)) (hf : lX5_lengthBeyond_4 N v l1 n l2 l3 = some u) (hk0 : gG k (wM (kD k) aM v) [(2, .int u)] 0 0 61 []), gG k (wM (kD k) aM v) [(0, .ref (aM 0)), (1, .int l1), (2, .int l2), (3, .int l3)] 0 0 4 [] := by
  intro n
  induction n with
  | zero => intro l2 l3 u hf hk0; rw [lX5_lengthBeyond_4] at hf; cases hf
  | succ n ih =>
    intro l2 l3 u hf hk0
    rw [lX5_lengthBeyond_4] at hf
    refine g_iload_n (pc := 4) (x := l3) C dX5_lengthBeyond_4 rfl ?_
    refine g_aload_n (pc := 5) (x := (aM 0)) C dX5_lengthBeyond_5 rfl ?_
    refine g_getf (pc := 6) C 0 rfl rfl inX5_lengthBeyond_X5 0 (by decide) lkX5_lengthBeyond_7 rfl rfl dX5_lengthBeyond_6 ?_
    refine g_bipush (pc := 9) (v := 8) C dX5_lengthBeyond_9 (by decide) ?_
    refine g_iald (pc := 11) (i := 8) hf C 1 rfl dX5_lengthBeyond_11 (fun hf => ?_)
    refine g_icmp_ge (pc := 12) (tgt := 61) (x := l3) (y := ((mRow v) (Int32.toNatClampNeg 8))) hf C dX5_lengthBeyond_12 (by decide) (fun hf => ?_) (fun hf => ?_)
    · obtain rfl := Option.some.inj hf
      refine g_lv [2] (lv' := [(2, .int l2)]) rfl ?_
      exact hk0
    · refine g_aload_n (pc := 15) (x := (aM 0)) C dX5_lengthBeyond_15 rfl ?_
      refine g_iload_n (pc := 16) (x := l3) C dX5_lengthBeyond_16 rfl ?_
      refine g_iconst (pc := 17) (v := 0) C dX5_lengthBeyond_17 (by decide) ?_
      refine g_callR (pc' := 21) (cs' := 0) (sl' := 0) hf C (fun u => some (.int u)) (fun u hu => gr_V (rest := []) C (cX5_of_ (kL k) C.tr (kD k) N aM v l3 0 u hu) (fun ht => cwV 2 ht gX5_lengthBeyond_X5_of rfl rfl rfl hdX5_of ⟨(Nat.le_of_ble_eq_true rfl), (Nat.le_of_ble_eq_true rfl)⟩) 0 rfl rfl [0, 1, 2, 3, 4, 5, 6, 7, 8, 9] rfl (by decide) rfl rfl (Nat.le_of_ble_eq_true rfl) dX5_lengthBeyond_18 ⟨(Nat.le_of_ble_eq_true rfl), (Nat.le_of_ble_eq_true rfl)⟩) [0, 1, 2, 3, 4, 5, 6, 7, 8, 9] rfl rfl rfl rfl (fun u => [.int u]) (fun u => rfl) (fun r1 hf => ?_)
      refine g_istore (pc := 21) (lv' := [(4, .int r1), (0, .ref (aM 0)), (1, .int l1), (2, .int l2), (3, .int l3)]) C dX5_lengthBeyond_21 (by decide) rfl ?_
      refine g_aload_n (pc := 23) (x := (aM 0)) C dX5_lengthBeyond_23 rfl ?_
      refine g_iload_n (pc := 24) (x := l3) C dX5_lengthBeyond_24 rfl ?_
      refine g_callR (pc' := 28) (cs' := 0) (sl' := 0) hf C (fun u => some (.int (b2i u))) (fun u hu => gr_V (rest := []) C (cX5_isFree_ (kL k) C.tr (kD k) N aM v l3 u hu) (fun ht => cwV 1 ht gX5_lengthBeyond_X5_isFree rfl rfl rfl hdX5_isFree ⟨(Nat.le_of_ble_eq_true rfl), (Nat.le_of_ble_eq_true rfl)⟩) 0 rfl rfl [0, 1, 2, 3, 4, 5, 6, 7, 8, 9] rfl (by decide) rfl rfl (Nat.le_of_ble_eq_true rfl) dX5_lengthBeyond_25 ⟨(Nat.le_of_ble_eq_true rfl), (Nat.le_of_ble_eq_true rfl)⟩) [0, 1, 2, 3, 4, 5, 6, 7, 8, 9] rfl rfl rfl rfl (fun u => [.int (b2i u)]) (fun u => rfl) (fun r2 hf => ?_)
      refine g_ifB_eq (pc := 28) (tgt := 53) (b := r2) hf C dX5_lengthBeyond_28 (by decide) (fun hf => ?_) (fun hf => ?_)
      · refine g_iload_n (pc := 53) (x := l2) C dX5_lengthBeyond_53 rfl ?_
        refine g_istore_n (pc := 54) (lv' := [(2, .int l2), (4, .int r1), (0, .ref (aM 0)), (1, .int l1), (3, .int l3)]) C dX5_lengthBeyond_54 (by decide) rfl ?_
        refine g_iinc (pc := 55) (x := l3) (v := (l3 + 1)) (lv' := [(3, .int (l3 + 1)), (2, .int l2), (4, .int r1), (0, .ref (aM 0)), (1, .int l1)]) C dX5_lengthBeyond_55 rfl rfl (by decide) rfl ?_
        refine g_goto (pc := 58) (tgt := 4) C dX5_lengthBeyond_58 (by decide) ?_
        refine g_lv [3, 4, 1, 0] (lv' := [(0, .ref (aM 0)), (1, .int l1), (2, .int l2), (3, .int (l3 + 1))]) rfl ?_
        exact ih l2 (l3 + 1) u hf hk0
      · refine g_iload (pc := 31) (x := r1) C dX5_lengthBeyond_31 rfl ?_
        refine g_iload_n (pc := 33) (x := l1) C dX5_lengthBeyond_33 rfl ?_
        refine g_icmp_le (pc := 34) (tgt := 53) (x := r1) (y := l1) hf C dX5_lengthBeyond_34 (by decide) (fun hf => ?_) (fun hf => ?_)
        · refine g_iload_n (pc := 53) (x := l2) C dX5_lengthBeyond_53 rfl ?_
          refine g_istore_n (pc := 54) (lv' := [(2, .int l2), (4, .int r1), (0, .ref (aM 0)), (1, .int l1), (3, .int l3)]) C dX5_lengthBeyond_54 (by decide) rfl ?_
          refine g_iinc (pc := 55) (x := l3) (v := (l3 + 1)) (lv' := [(3, .int (l3 + 1)), (2, .int l2), (4, .int r1), (0, .ref (aM 0)), (1, .int l1)]) C dX5_lengthBeyond_55 rfl rfl (by decide) rfl ?_
          refine g_goto (pc := 58) (tgt := 4) C dX5_lengthBeyond_58 (by decide) ?_
          refine g_lv [3, 4, 1, 0] (lv' := [(0, .ref (aM 0)), (1, .int l1), (2, .int l2), (3, .int (l3 + 1))]) rfl ?_
          exact ih l2 (l3 + 1) u hf hk0
        · refine g_iload_n (pc := 37) (x := l2) C dX5_lengthBeyond_37 rfl ?_
          refine g_iconst (pc := 38) (v := (-1)) C dX5_lengthBeyond_38 (by decide) ?_
          refine g_icmp_eq (pc := 39) (tgt := 48) (x := l2) (y := (-1)) hf C dX5_lengthBeyond_39 (by decide) (fun hf => ?_) (fun hf => ?_)
          · refine g_iload (pc := 48) (x := r1) C dX5_lengthBeyond_48 rfl ?_
            refine g_goto (pc := 50) (tgt := 54) C dX5_lengthBeyond_50 (by decide) ?_
            refine g_istore_n (pc := 54) (lv' := [(2, .int r1), (4, .int r1), (0, .ref (aM 0)), (1, .int l1), (3, .int l3)]) C dX5_lengthBeyond_54 (by decide) rfl ?_
            refine g_iinc (pc := 55) (x := l3) (v := (l3 + 1)) (lv' := [(3, .int (l3 + 1)), (2, .int r1), (4, .int r1), (0, .ref (aM 0)), (1, .int l1)]) C dX5_lengthBeyond_55 rfl rfl (by decide) rfl ?_
            refine g_goto (pc := 58) (tgt := 4) C dX5_lengthBeyond_58 (by decide) ?_
            refine g_lv [3, 4, 1, 0] (lv' := [(0, .ref (aM 0)), (1, .int l1), (2, .int r1), (3, .int (l3 + 1))]) rfl ?_
            exact ih r1 (l3 + 1) u hf hk0
          · refine g_iload (pc := 42) (x := r1) C dX5_lengthBeyond_42 rfl ?_
            refine g_iload_n (pc := 44) (x := l2) C dX5_lengthBeyond_44 rfl ?_
            refine g_icmp_ge (pc := 45) (tgt := 53) (x := r1) (y := l2) hf C dX5_lengthBeyond_45 (by decide) (fun hf => ?_) (fun hf => ?_)
            · refine g_iload_n (pc := 53) (x := l2) C dX5_lengthBeyond_53 rfl ?_
              refine g_istore_n (pc := 54) (lv' := [(2, .int l2), (4, .int r1), (0, .ref (aM 0)), (1, .int l1), (3, .int l3)]) C dX5_lengthBeyond_54 (by decide) rfl ?_
              refine g_iinc (pc := 55) (x := l3) (v := (l3 + 1)) (lv' := [(3, .int (l3 + 1)), (2, .int l2), (4, .int r1), (0, .ref (aM 0)), (1, .int l1)]) C dX5_lengthBeyond_55 rfl rfl (by decide) rfl ?_
              refine g_goto (pc := 58) (tgt := 4) C dX5_lengthBeyond_58 (by decide) ?_
              refine g_lv [3, 4, 1, 0] (lv' := [(0, .ref (aM 0)), (1, .int l1), (2, .int l2), (3, .int (l3 + 1))]) rfl ?_
              exact ih l2 (l3 + 1) u hf hk0
            · refine g_iload (pc := 48) (x := r1) C dX5_lengthBeyond_48 rfl ?_
              refine g_goto (pc := 50) (tgt := 54) C dX5_lengthBeyond_50 (by decide) ?_
              refine g_istore_n (pc := 54) (lv' := [(2, .int r1), (4, .int r1), (0, .ref (aM 0)), (1, .int l1), (3, .int l3)]) C dX5_lengthBeyond_54 (by decide) rfl ?_
              refine g_iinc (pc := 55) (x := l3) (v := (l3 + 1)) (lv' := [(3, .int (l3 + 1)), (2, .int r1), (4, .int r1), (0, .ref (aM 0)), (1, .int l1)]) C dX5_lengthBeyond_55 rfl rfl (by decide) rfl ?_
              refine g_goto (pc := 58) (tgt := 4) C dX5_lengthBeyond_58 (by decide) ?_
              refine g_lv [3, 4, 1, 0] (lv' := [(0, .ref (aM 0)), (1, .int l1), (2, .int r1), (3, .int (l3 + 1))]) rfl ?_
              exact ih r1 (l3 + 1) u hf hk0
def fX5_lengthBeyond (N : Nat) (v : VM) (p1 : Int32) : Option (Int32) := ((lX5_lengthBeyond_4 N v p1 N (-1) 0).bind fun r1 => some r1)
set_option maxRecDepth 100000 in
set_option maxHeartbeats 4000000 in
theorem wkX5_lengthBeyond {k : Kt} (C : gC k cX5_lengthBeyond 5 RX5 wsX5_lengthBeyond rmX5_lengthBeyond "lengthBeyond") (N : Nat) (aM : Nat → Nat) (v : VM) (p1 : Int32) (r : Int32) (hf : fX5_lengthBeyond N v p1 = some r) (E : gE k (wM (kD k) aM v) (fun rv w => rv = some (.int r) ∧ w = (wM (kD k) aM v)) (fun _ _ => False) 0 0 (some .int) []) : gG k (wM (kD k) aM v) [(0, .ref (aM 0)), (1, .int p1)] 0 0 0 [] := by
  unfold fX5_lengthBeyond at hf
  refine g_iconst (pc := 0) (v := (-1)) C dX5_lengthBeyond_0 (by decide) ?_
  refine g_istore_n (pc := 1) (lv' := [(2, .int (-1)), (0, .ref (aM 0)), (1, .int p1)]) C dX5_lengthBeyond_1 (by decide) rfl ?_
  refine g_iconst (pc := 2) (v := 0) C dX5_lengthBeyond_2 (by decide) ?_
  refine g_istore_n (pc := 3) (lv' := [(3, .int 0), (2, .int (-1)), (0, .ref (aM 0)), (1, .int p1)]) C dX5_lengthBeyond_3 (by decide) rfl ?_
  obtain ⟨r1, h1, hf⟩ := bd_e hf
  refine g_lv [2, 3, 1, 0] (lv' := [(0, .ref (aM 0)), (1, .int p1), (2, .int (-1)), (3, .int 0)]) rfl ?_
  refine wlX5_lengthBeyond_4 C N aM v p1 N (-1) 0 r1 h1 ?_
  refine g_iload_n (pc := 61) (x := r1) C dX5_lengthBeyond_61 rfl ?_
  obtain rfl := Option.some.inj hf
  exact g_iret (v := r1) C E dX5_lengthBeyond_62 (Nat.le_of_ble_eq_true rfl) (Nat.le_of_ble_eq_true rfl) ⟨rfl, rfl⟩
set_option maxRecDepth 100000 in
set_option maxHeartbeats 4000000 in
theorem cX5_lengthBeyond_ (l : Launch) (htr : l.stackTraces = false) (D : va_G) (N : Nat) (aM : Nat → Nat) (v : VM) (p1 : Int32) (r : Int32) (hf : fX5_lengthBeyond N v p1 = some r) : Tc l D yX5_lengthBeyond wsX5_lengthBeyond rmX5_lengthBeyond [.ref (aM 0), .int p1] (wM D aM v) (fun rv w => rv = some (.int r) ∧ w = (wM D aM v)) (fun _ _ => False) 0 0 := Tc_of htr (by decide +kernel) rfl (Nat.le_of_ble_eq_true rfl) (fun k C E hl hD => by subst hD; exact wkX5_lengthBeyond C N aM v p1 r hf E)
abbrev rmX5_lengthOfRank : Room := { frames := 3, cells := 0, slots := 0, locals := 67 }
theorem hdX5_lengthOfRank : yX5_lengthOfRank.cls = RX5 ∧ yX5_lengthOfRank.cls ≠ "java/lang/invoke/MethodHandle" ∧ yX5_lengthOfRank.cls ≠ "java/lang/invoke/VarHandle" ∧ (parseMethodDescriptor yX5_lengthOfRank.desc).map (fun d => d.parameters.length) = some 1 := by decide +kernel
def lX5_lengthOfRank_8 (N : Nat) (v : VM) (l1 : Int32) : Nat → Int32 → Int32 → Option ((Int32 × Int32))
  | 0, _, _ => none
  | n + 1, l2, l3 => (if l3 = ((-1) : Int32) then some (l2, l3) else (if l2 = l1 then some (l2, l3) else ((fX5_lengthBeyond N v l3).bind fun r1 => (lX5_lengthOfRank_8 N v l1 n (l2 + 1) r1))))
set_option maxRecDepth 100000 in
set_option maxHeartbeats 4000000 in
theorem wlX5_lengthOfRank_8 {k : Kt} (C : gC k cX5_lengthOfRank 4 RX5 wsX5_lengthOfRank rmX5_lengthOfRank "lengthOfRank") (N : Nat) (aM : Nat → Nat) (v : VM) (l1 : Int32) : ∀ (n : Nat) (l2 : Int32) (l3 : Int32) (u : (Int32 × Int32)) (hf : lX5_lengthOfRank_8 N v l1 n l2 l3 = some u) (hk0 : gG k (wM (kD k) aM v) [(1, .int l1), (2, .int u.1), (3, .int u.2)] 0 0 30 []), gG k (wM (kD k) aM v) [(0, .ref (aM 0)), (1, .int l1), (2, .int l2), (3, .int l3)] 0 0 8 [] := by
  intro n
  induction n with
  | zero => intro l2 l3 u hf hk0; rw [lX5_lengthOfRank_8] at hf; cases hf
  | succ n ih =>
    intro l2 l3 u hf hk0
    rw [lX5_lengthOfRank_8] at hf
    refine g_iload_n (pc := 8) (x := l3) C dX5_lengthOfRank_8 rfl ?_
    refine g_iconst (pc := 9) (v := (-1)) C dX5_lengthOfRank_9 (by decide) ?_
    refine g_icmp_eq (pc := 10) (tgt := 30) (x := l3) (y := (-1)) hf C dX5_lengthOfRank_10 (by decide) (fun hf => ?_) (fun hf => ?_)
    · obtain rfl := Option.some.inj hf
      refine g_lv [1, 2, 3] (lv' := [(1, .int l1), (2, .int l2), (3, .int l3)]) rfl ?_
      exact hk0
    · refine g_iload_n (pc := 13) (x := l2) C dX5_lengthOfRank_13 rfl ?_
      refine g_iload_n (pc := 14) (x := l1) C dX5_lengthOfRank_14 rfl ?_
      refine g_icmp_eq (pc := 15) (tgt := 30) (x := l2) (y := l1) hf C dX5_lengthOfRank_15 (by decide) (fun hf => ?_) (fun hf => ?_)
      · obtain rfl := Option.some.inj hf
        refine g_lv [1, 2, 3] (lv' := [(1, .int l1), (2, .int l2), (3, .int l3)]) rfl ?_
        exact hk0
      · refine g_aload_n (pc := 18) (x := (aM 0)) C dX5_lengthOfRank_18 rfl ?_
        refine g_iload_n (pc := 19) (x := l3) C dX5_lengthOfRank_19 rfl ?_
        refine g_callR (pc' := 23) (cs' := 0) (sl' := 0) hf C (fun u => some (.int u)) (fun u hu => gr_V (rest := []) C (cX5_lengthBeyond_ (kL k) C.tr (kD k) N aM v l3 u hu) (fun ht => cwV 1 ht gX5_lengthOfRank_X5_lengthBeyond rfl rfl rfl hdX5_lengthBeyond ⟨(Nat.le_of_ble_eq_true rfl), (Nat.le_of_ble_eq_true rfl)⟩) 0 rfl rfl [0, 1, 2, 3, 4, 5, 6, 7, 8, 9] rfl (by decide) rfl rfl (Nat.le_of_ble_eq_true rfl) dX5_lengthOfRank_20 ⟨(Nat.le_of_ble_eq_true rfl), (Nat.le_of_ble_eq_true rfl)⟩) [0, 1, 2, 3, 4, 5, 6, 7, 8, 9] rfl rfl rfl rfl (fun u => [.int u]) (fun u => rfl) (fun r1 hf => ?_)
        refine g_istore_n (pc := 23) (lv' := [(3, .int r1), (0, .ref (aM 0)), (1, .int l1), (2, .int l2)]) C dX5_lengthOfRank_23 (by decide) rfl ?_
        refine g_iinc (pc := 24) (x := l2) (v := (l2 + 1)) (lv' := [(2, .int (l2 + 1)), (3, .int r1), (0, .ref (aM 0)), (1, .int l1)]) C dX5_lengthOfRank_24 rfl rfl (by decide) rfl ?_
        refine g_goto (pc := 27) (tgt := 8) C dX5_lengthOfRank_27 (by decide) ?_
        refine g_lv [2, 3, 0, 1] (lv' := [(0, .ref (aM 0)), (1, .int l1), (2, .int (l2 + 1)), (3, .int r1)]) rfl ?_
        exact ih (l2 + 1) r1 u hf hk0
def fX5_lengthOfRank (N : Nat) (v : VM) (p1 : Int32) : Option (Int32) := ((fX5_lengthBeyond N v 0).bind fun r1 => ((lX5_lengthOfRank_8 N v p1 N 0 r1).bind fun r2 => (if p1 = ((-1) : Int32) then some r2.1 else some r2.2)))
set_option maxRecDepth 100000 in
set_option maxHeartbeats 4000000 in
theorem wkX5_lengthOfRank {k : Kt} (C : gC k cX5_lengthOfRank 4 RX5 wsX5_lengthOfRank rmX5_lengthOfRank "lengthOfRank") (N : Nat) (aM : Nat → Nat) (v : VM) (p1 : Int32) (r : Int32) (hf : fX5_lengthOfRank N v p1 = some r) (E : gE k (wM (kD k) aM v) (fun rv w => rv = some (.int r) ∧ w = (wM (kD k) aM v)) (fun _ _ => False) 0 0 (some .int) []) : gG k (wM (kD k) aM v) [(0, .ref (aM 0)), (1, .int p1)] 0 0 0 [] := by
  unfold fX5_lengthOfRank at hf
  refine g_iconst (pc := 0) (v := 0) C dX5_lengthOfRank_0 (by decide) ?_
  refine g_istore_n (pc := 1) (lv' := [(2, .int 0), (0, .ref (aM 0)), (1, .int p1)]) C dX5_lengthOfRank_1 (by decide) rfl ?_
  refine g_aload_n (pc := 2) (x := (aM 0)) C dX5_lengthOfRank_2 rfl ?_
  refine g_iconst (pc := 3) (v := 0) C dX5_lengthOfRank_3 (by decide) ?_
  refine g_callR (pc' := 7) (cs' := 0) (sl' := 0) hf C (fun u => some (.int u)) (fun u hu => gr_V (rest := []) C (cX5_lengthBeyond_ (kL k) C.tr (kD k) N aM v 0 u hu) (fun ht => cwV 1 ht gX5_lengthOfRank_X5_lengthBeyond rfl rfl rfl hdX5_lengthBeyond ⟨(Nat.le_of_ble_eq_true rfl), (Nat.le_of_ble_eq_true rfl)⟩) 0 rfl rfl [0, 1, 2, 3, 4, 5, 6, 7, 8, 9] rfl (by decide) rfl rfl (Nat.le_of_ble_eq_true rfl) dX5_lengthOfRank_4 ⟨(Nat.le_of_ble_eq_true rfl), (Nat.le_of_ble_eq_true rfl)⟩) [0, 1, 2, 3, 4, 5, 6, 7, 8, 9] rfl rfl rfl rfl (fun u => [.int u]) (fun u => rfl) (fun r1 hf => ?_)
  refine g_istore_n (pc := 7) (lv' := [(3, .int r1), (2, .int 0), (0, .ref (aM 0)), (1, .int p1)]) C dX5_lengthOfRank_7 (by decide) rfl ?_
  obtain ⟨r2, h2, hf⟩ := bd_e hf
  refine g_lv [2, 3, 1, 0] (lv' := [(0, .ref (aM 0)), (1, .int p1), (2, .int 0), (3, .int r1)]) rfl ?_
  refine wlX5_lengthOfRank_8 C N aM v p1 N 0 r1 r2 h2 ?_
  refine g_iload_n (pc := 30) (x := p1) C dX5_lengthOfRank_30 rfl ?_
  refine g_iconst (pc := 31) (v := (-1)) C dX5_lengthOfRank_31 (by decide) ?_
  refine g_icmp_ne (pc := 32) (tgt := 39) (x := p1) (y := (-1)) hf C dX5_lengthOfRank_32 (by decide) (fun hf => ?_) (fun hf => ?_)
  · refine g_iload_n (pc := 39) (x := r2.2) C dX5_lengthOfRank_39 rfl ?_
    obtain rfl := Option.some.inj hf
    exact g_iret (v := r2.2) C E dX5_lengthOfRank_40 (Nat.le_of_ble_eq_true rfl) (Nat.le_of_ble_eq_true rfl) ⟨rfl, rfl⟩
  · refine g_iload_n (pc := 35) (x := r2.1) C dX5_lengthOfRank_35 rfl ?_
    refine g_goto (pc := 36) (tgt := 40) C dX5_lengthOfRank_36 (by decide) ?_
    obtain rfl := Option.some.inj hf
    exact g_iret (v := r2.1) C E dX5_lengthOfRank_40 (Nat.le_of_ble_eq_true rfl) (Nat.le_of_ble_eq_true rfl) ⟨rfl, rfl⟩
set_option maxRecDepth 100000 in
set_option maxHeartbeats 4000000 in
theorem cX5_lengthOfRank_ (l : Launch) (htr : l.stackTraces = false) (D : va_G) (N : Nat) (aM : Nat → Nat) (v : VM) (p1 : Int32) (r : Int32) (hf : fX5_lengthOfRank N v p1 = some r) : Tc l D yX5_lengthOfRank wsX5_lengthOfRank rmX5_lengthOfRank [.ref (aM 0), .int p1] (wM D aM v) (fun rv w => rv = some (.int r) ∧ w = (wM D aM v)) (fun _ _ => False) 0 0 := Tc_of htr (by decide +kernel) rfl (Nat.le_of_ble_eq_true rfl) (fun k C E hl hD => by subst hD; exact wkX5_lengthOfRank C N aM v p1 r hf E)
