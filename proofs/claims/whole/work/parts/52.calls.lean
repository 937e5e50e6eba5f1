/-! the law's calls, one by one -/
theorem RsA.out {q q2 : Nat} {v : VS} {z : VV} {tx : VT} {n0 n1 : Option VS} {cs : List (Nat × Nat)} {X : Option (Nat ⊕ (VS × VV × Int32))} {Y : Option (VM × Int32)} (h : RsA q q2 v z tx n0 n1 cs X Y) : ∃ r m' y, X = some r ∧ Y = some (m', y) ∧ ((∃ e kc, (e, kc) ∈ cs ∧ r = .inl e ∧ mThr m' = nI kc ∧ SM q v z tx n0 n1 m') ∨ ∃ a, r = .inr a ∧ (fun b : VS × VV × Int32 => b.2.2) a = y ∧ mThr m' = 0 ∧ (fun b : VS × VV × Int32 => SM q2 b.1 b.2.1 tx n0 n1 m') a) := by
  rcases h with ⟨e, k, m', b, h1, h2, h3, h4, h5⟩ | ⟨v', z', x, m', h1, h2, h3, h4⟩
  · exact ⟨_, m', b, h2, h3, .inl ⟨e, k, h1, rfl, h4, h5⟩⟩
  · exact ⟨_, m', x, h1, h2, .inr ⟨_, rfl, rfl, h3, h4⟩⟩
theorem RsQ.out {q : Nat} {v : VS} {z : VV} {tx : VT} {n0 n1 : Option VS} {cs : List (Nat × Nat)} {X : Option (Nat ⊕ Int32)} {Y : Option (VM × Int32)} (h : RsQ q v z tx n0 n1 cs X Y) : ∃ r m' y, X = some r ∧ Y = some (m', y) ∧ ((∃ e kc, (e, kc) ∈ cs ∧ r = .inl e ∧ mThr m' = nI kc ∧ SM q v z tx n0 n1 m') ∨ ∃ a, r = .inr a ∧ (fun b : Int32 => b) a = y ∧ mThr m' = 0 ∧ (fun _ : Int32 => SM q v z tx n0 n1 m') a) := by
  rcases h with ⟨e, k, m', b, h1, h2, h3, h4, h5⟩ | ⟨x, m', h1, h2, h3, h4⟩
  · exact ⟨_, m', b, h2, h3, .inl ⟨e, k, h1, rfl, h4, h5⟩⟩
  · exact ⟨_, m', x, h1, h2, .inr ⟨_, rfl, rfl, h3, h4⟩⟩
theorem RsT.out {q : Nat} {v : VS} {z : VV} {tx : VT} {n0 n1 : Option VS} {X : Option (Nat ⊕ (VT × Int32))} {Y : Option (VM × Int32)} (h : RsT q v z tx n0 n1 X Y) : ∃ r m' y, X = some r ∧ Y = some (m', y) ∧ ((∃ e kc, (e, kc) ∈ [(1, 1), (2, 2)] ∧ r = .inl e ∧ mThr m' = nI kc ∧ SM q v z tx n0 n1 m') ∨ ∃ a, r = .inr a ∧ (fun b : VT × Int32 => b.2) a = y ∧ mThr m' = 0 ∧ (fun b : VT × Int32 => SM q v z b.1 n0 n1 m') a) := by
  rcases h with ⟨e, k, m', b, h1, h2, h3, h4, h5⟩ | ⟨t, x, m', h1, h2, h3, h4⟩
  · exact ⟨_, m', b, h2, h3, .inl ⟨e, k, h1, rfl, h4, h5⟩⟩
  · exact ⟨_, m', x, h1, h2, .inr ⟨_, rfl, rfl, h3, h4⟩⟩
theorem ok_block : okC [(1, 1), (2, 2)] csL_block := by decide +kernel
set_option maxRecDepth 100000 in
set_option maxHeartbeats 4000000 in
theorem op_block {k : Kt} {nm : String} (C : gC k cL_law 9 RL wsL_law room_1 nm) {b L : Nat} {xs : Nat → Int32} (X : LX k b L xs) {N : Nat} (hN0 : 2097152 ≤ N) {rG rV rN rL : Nat} {aS aT aM aV a0 a1 : Nat → Nat} {v : VS} {z : VV} {tx : VT} {n0 n1 : Option VS} {m : VM} {g : Nat → Int64} {q : Nat} (hq : q ≤ 800000) (h : SM q v z tx n0 n1 m) {i : Int32} (h1 : vp_in (i + 1) L) (h2 : vp_in (i + 2) L) {cs sl : Nat} (hcs : cs + 10 ≤ room_1.cells) (hsl : sl + 163 ≤ room_1.slots) (K : KK k b rG rV rN rL aS aT aM (q + 400) i (cs + 10) (sl + 163)) : gG k (wAll (kD k) rG rV rN rL aS aT aM aV a0 a1 v z tx n0 n1 m g) (lvW b rG rL aM i) cs sl 168 [] := by
  obtain ⟨p1, e1⟩ : ∃ p1, xs (i + 1).toNatClampNeg = p1 := ⟨_, rfl⟩
  obtain ⟨p2, e2⟩ : ∃ p2, xs (i + 2).toNatClampNeg = p2 := ⟨_, rfl⟩
  unfold wAll lvW
  obtain ⟨r, m2, y, hX, hY, hr⟩ := (sim_block hN0 h p1 p2).out
  refine g_aload_n (pc := 168) (x := rG) C dL_law_168 rfl ?_
  refine g_aload_n (pc := 169) (x := b) C dL_law_169 rfl ?_
  refine g_iload (pc := 170) (x := i) C dL_law_170 rfl ?_
  refine g_iconst (pc := 172) (v := 1) C dL_law_172 (by decide) ?_
  refine g_iadd (pc := 173) C dL_law_173 ?_
  refine g_xld (pc := 174) C X h1 e1 dL_law_174 ?_
  refine g_aload_n (pc := 175) (x := b) C dL_law_175 rfl ?_
  refine g_iload (pc := 176) (x := i) C dL_law_176 rfl ?_
  refine g_iconst (pc := 178) (v := 2) C dL_law_178 (by decide) ?_
  refine g_iadd (pc := 179) C dL_law_179 ?_
  refine g_xld (pc := 180) C X h2 e2 dL_law_180 ?_
  refine g_aload_n (pc := 181) (x := rL) C dL_law_181 rfl ?_
  refine g_callM (pc := 182) (wr := (wT (kD k) aT tx ++ (wN (kD k) rN (fN a0 a1 n0 n1) ++ (wO (kD k) a0 n0 ++ (wO (kD k) a1 n1 ++ wM (kD k) aM m))))) (rest := []) C as4 (cL_block_ (kL k) C.tr (kD k) rG rL g p1 p2 _ _ (wG (kD k) rG (aS 0) rV rN (aT 0) ++ (wS (kD k) aS v ++ wV (kD k) rV aV z)) rfl _ _ (cX4_block_ (kL k) C.tr (kD k) N rG rN (aT 0) aS rV aV v z p1 p2 r hX) (fun rv w h => by
      obtain ⟨a, -, e, -⟩ := h
      exact ⟨_, e⟩) (fun X w h => by
      obtain ⟨t, ht, e⟩ := PX_in ok_block hr X w h
      rcases List.mem_cons.mp ht with rfl | ht
      · exact .inl e
      · rw [List.mem_singleton.mp ht] at e
        exact .inr e)) (fun ht => vx_cwSW 4 ht gL_law_L_block rfl rfl rfl hsL_block ⟨(Nat.le_of_ble_eq_true rfl), (Nat.le_of_ble_eq_true rfl)⟩) rfl rfl (Nat.le_of_ble_eq_true rfl) dL_law_182 ⟨by show cs + 3 ≤ _; omega, by show sl + 18 ≤ _; omega⟩ (fun rv w1 hp => ?_)
  obtain ⟨j, g2, w2, rfl, rfl, hj, h0, hw⟩ := PH_out (pv := (fun b : VS × VV × Int32 => b.2.2)) (PW := (fun (b : VS × VV × Int32) (w : va_W) => ∃ a : Nat → Nat, w = (wG (kD k) rG (aS 0) rV rN (aT 0) ++ (wS (kD k) aS b.1 ++ wV (kD k) rV a b.2.1)))) (w0 := (wG (kD k) rG (aS 0) rV rN (aT 0) ++ (wS (kD k) aS v ++ wV (kD k) rV aV z))) ok_block hr hp
  obtain ⟨v2, z2, aV2, rfl, hs⟩ : ∃ v2 z2 aV2, w2 = (wG (kD k) rG (aS 0) rV rN (aT 0) ++ (wS (kD k) aS v2 ++ wV (kD k) rV aV2 z2)) ∧ SM (q + 400) v2 z2 tx n0 n1 m2 := by
    rcases hw with ⟨rfl, hs⟩ | ⟨a, ⟨aV2, rfl⟩, hs⟩
    · exact ⟨_, _, _, rfl, hs.mono (by omega)⟩
    · exact ⟨_, _, _, rfl, hs.mono (by omega)⟩
  refine g_Perm as4.symm ?_
  refine g_stack (st' := [.int j]) rfl ?_
  refine g_istore (pc := 185) (lv' := [(5, .int j), (4, .int i), (3, .ref rL), (2, .ref (aM 0)), (1, .ref rG), (0, .ref b)]) C dL_law_185 (by decide) rfl ?_
  refine g_aload_n (pc := 187) (x := aM 0) C dL_law_187 rfl ?_
  refine g_aload_n (pc := 188) (x := b) C dL_law_188 rfl ?_
  refine g_iload (pc := 189) (x := i) C dL_law_189 rfl ?_
  refine g_iconst (pc := 191) (v := 1) C dL_law_191 (by decide) ?_
  refine g_iadd (pc := 192) C dL_law_192 ?_
  refine g_xld (pc := 193) C X h1 e1 dL_law_193 ?_
  refine g_aload_n (pc := 194) (x := b) C dL_law_194 rfl ?_
  refine g_iload (pc := 195) (x := i) C dL_law_195 rfl ?_
  refine g_iconst (pc := 197) (v := 2) C dL_law_197 (by decide) ?_
  refine g_iadd (pc := 198) C dL_law_198 ?_
  refine g_xld (pc := 199) C X h2 e2 dL_law_199 ?_
  refine g_callV (pc := 200) (wc := wM (kD k) aM m) (wr := (wL (kD k) rL g2 ++ (wG (kD k) rG (aS 0) rV rN (aT 0) ++ (wS (kD k) aS v2 ++ (wV (kD k) rV aV2 z2 ++ (wT (kD k) aT tx ++ (wN (kD k) rN (fN a0 a1 n0 n1) ++ (wO (kD k) a0 n0 ++ wO (kD k) a1 n1)))))))) C (pm0 (pm0 (pm0 (pm0 (pm0 (pm0 (pm0 pmL))))))) (gr_V (y := yX5_block) (As := [.int p1, .int p2]) (rest := []) C (cX5_block_ (kL k) C.tr (kD k) N aM m p1 p2 (m2, y) hY) (fun ht => cwV 2 ht gL_law_X5_block rfl rfl rfl hdX5_block ⟨(Nat.le_of_ble_eq_true rfl), (Nat.le_of_ble_eq_true rfl)⟩) 0 rfl rfl _ (rg_map _ _) (rg_nd _) rfl rfl (Nat.le_of_ble_eq_true rfl) dL_law_200 ⟨by show cs + 3 + 0 ≤ _; omega, by show sl + 18 + 0 ≤ _; omega⟩) (fun rv w1 hp => ?_)
  obtain ⟨rfl, rfl⟩ := hp
  refine g_stack (st' := [.int y]) rfl ?_
  refine g_istore (pc := 203) (lv' := [(6, .int y), (5, .int j), (4, .int i), (3, .ref rL), (2, .ref (aM 0)), (1, .ref rG), (0, .ref b)]) C dL_law_203 (by decide) rfl ?_
  refine g_aload_n (pc := 205) (x := aM 0) C dL_law_205 rfl ?_
  refine g_callV (pc := 206) (wc := wM (kD k) aM m2) (wr := (wL (kD k) rL g2 ++ (wG (kD k) rG (aS 0) rV rN (aT 0) ++ (wS (kD k) aS v2 ++ (wV (kD k) rV aV2 z2 ++ (wT (kD k) aT tx ++ (wN (kD k) rN (fN a0 a1 n0 n1) ++ (wO (kD k) a0 n0 ++ wO (kD k) a1 n1)))))))) C (List.Perm.refl _) (gr_V (y := yX5_thrown) (As := []) (rest := []) C (cX5_thrown_ (kL k) C.tr (kD k) N aM m2 (mThr m2) rfl) (fun ht => cwV 0 ht gL_law_X5_thrown rfl rfl rfl hdX5_thrown ⟨(Nat.le_of_ble_eq_true rfl), (Nat.le_of_ble_eq_true rfl)⟩) 0 rfl rfl _ (rg_map _ _) (rg_nd _) rfl rfl (Nat.le_of_ble_eq_true rfl) dL_law_206 ⟨by show cs + 3 + 0 + 0 ≤ _; omega, by show sl + 18 + 0 + 0 ≤ _; omega⟩) (fun rv w1 hp => ?_)
  obtain ⟨rfl, rfl⟩ := hp
  refine g_stack (st' := [.int (mThr m2)]) rfl ?_
  refine g_iload (pc := 209) (x := j) C dL_law_209 rfl ?_
  refine g_icmpeqC (pc := 211) (tgt := 216) C hj dL_law_211 (by decide) ?_
  have END : gG k (wM (kD k) aM m2 ++ (wL (kD k) rL g2 ++ (wG (kD k) rG (aS 0) rV rN (aT 0) ++ (wS (kD k) aS v2 ++ (wV (kD k) rV aV2 z2 ++ (wT (kD k) aT tx ++ (wN (kD k) rN (fN a0 a1 n0 n1) ++ (wO (kD k) a0 n0 ++ wO (kD k) a1 n1)))))))) [(6, .int y), (5, .int j), (4, .int i), (3, .ref rL), (2, .ref (aM 0)), (1, .ref rG), (0, .ref b)] (cs + 3 + 0 + 0) (sl + 18 + 0 + 0) 233 [] := by
    refine g_goto (pc := 233) (tgt := 1811) C dL_law_233 (by decide) ?_
    refine g_lv [2, 3, 4, 5, 6] (lv' := lvW b rG rL aM i) rfl ?_
    refine g_widen (c2 := cs + 10) (s2 := sl + 163) (by omega) (by omega) ?_
    exact g_Perm ((pm0 (List.Perm.refl _)).trans (pmc ((pm0 (List.Perm.refl _)).trans (pmc ((pm0 (List.Perm.refl _)).trans (pmc ((pm0 (List.Perm.refl _)).trans (pmc ((pm0 (List.Perm.refl _)).trans (pmc ((pm0 (List.Perm.refl _)).trans (pmc ((pm0 (List.Perm.refl _)).trans (pmc pmL)))))))))))))) (K aV2 a0 a1 v2 z2 tx n0 n1 m2 g2 hs)
  refine g_iload (pc := 216) (x := j) C dL_law_216 rfl ?_
  refine g_ifneC (pc := 218) (tgt := 233) C dL_law_218 (by decide) (fun _ => END) (fun hj0 => ?_)
  refine g_aload_n (pc := 221) (x := rL) C dL_law_221 rfl ?_
  refine g_iconst (pc := 222) (v := 0) C dL_law_222 (by decide) ?_
  refine g_lald (pc := 223) (X := some ()) (r := ()) (n := 1) (f := g2) rfl C 10 rfl dL_law_223 (fun _ => ?_)
  refine g_iload (pc := 224) (x := y) C dL_law_224 rfl ?_
  refine g_i2l (pc := 226) C dL_law_226 ?_
  refine g_lcmp0 (pc := 227) C (h0 hj0) dL_law_227 ?_
  exact g_ifeqC (pc := 228) (tgt := 233) C dL_law_228 (by decide) (fun _ => END) (fun hz => absurd rfl hz)
theorem ok_discard : okC [(3, 1), (2, 2)] csL_discard := by decide +kernel
set_option maxRecDepth 100000 in
set_option maxHeartbeats 4000000 in
theorem op_discard {k : Kt} {nm : String} (C : gC k cL_law 9 RL wsL_law room_1 nm) {b L : Nat} {xs : Nat → Int32} (X : LX k b L xs) {N : Nat} (hN0 : 2097152 ≤ N) {rG rV rN rL : Nat} {aS aT aM aV a0 a1 : Nat → Nat} {v : VS} {z : VV} {tx : VT} {n0 n1 : Option VS} {m : VM} {g : Nat → Int64} {q : Nat} (hq : q ≤ 800000) (h : SM q v z tx n0 n1 m) {i : Int32} (h1 : vp_in (i + 1) L) (h2 : vp_in (i + 2) L) {cs sl : Nat} (hcs : cs + 10 ≤ room_1.cells) (hsl : sl + 163 ≤ room_1.slots) (K : KK k b rG rV rN rL aS aT aM (q + 400) i (cs + 10) (sl + 163)) : gG k (wAll (kD k) rG rV rN rL aS aT aM aV a0 a1 v z tx n0 n1 m g) (lvW b rG rL aM i) cs sl 236 [] := by
  obtain ⟨p1, e1⟩ : ∃ p1, xs (i + 1).toNatClampNeg = p1 := ⟨_, rfl⟩
  obtain ⟨p2, e2⟩ : ∃ p2, xs (i + 2).toNatClampNeg = p2 := ⟨_, rfl⟩
  unfold wAll lvW
  obtain ⟨r, m2, y, hX, hY, hr⟩ := (sim_discard hN0 h p1).out
  refine g_aload_n (pc := 236) (x := rG) C dL_law_236 rfl ?_
  refine g_aload_n (pc := 237) (x := b) C dL_law_237 rfl ?_
  refine g_iload (pc := 238) (x := i) C dL_law_238 rfl ?_
  refine g_iconst (pc := 240) (v := 1) C dL_law_240 (by decide) ?_
  refine g_iadd (pc := 241) C dL_law_241 ?_
  refine g_xld (pc := 242) C X h1 e1 dL_law_242 ?_
  refine g_aload_n (pc := 243) (x := rL) C dL_law_243 rfl ?_
  refine g_callM (pc := 244) (wr := (wT (kD k) aT tx ++ (wN (kD k) rN (fN a0 a1 n0 n1) ++ (wO (kD k) a0 n0 ++ (wO (kD k) a1 n1 ++ wM (kD k) aM m))))) (rest := []) C as4 (cL_discard_ (kL k) C.tr (kD k) rG rL g p1 _ _ (wG (kD k) rG (aS 0) rV rN (aT 0) ++ (wS (kD k) aS v ++ wV (kD k) rV aV z)) rfl _ _ (cX4_discard_ (kL k) C.tr (kD k) N rG rN (aT 0) aS rV aV v z p1 r hX) (fun rv w h => by
      obtain ⟨a, -, e, -⟩ := h
      exact ⟨_, e⟩) (fun X w h => by
      obtain ⟨t, ht, e⟩ := PX_in ok_discard hr X w h
      rcases List.mem_cons.mp ht with rfl | ht
      · exact .inl e
      · rw [List.mem_singleton.mp ht] at e
        exact .inr e)) (fun ht => vx_cwSW 3 ht gL_law_L_discard rfl rfl rfl hsL_discard ⟨(Nat.le_of_ble_eq_true rfl), (Nat.le_of_ble_eq_true rfl)⟩) rfl rfl (Nat.le_of_ble_eq_true rfl) dL_law_244 ⟨by show cs + 2 ≤ _; omega, by show sl + 12 ≤ _; omega⟩ (fun rv w1 hp => ?_)
  obtain ⟨j, g2, w2, rfl, rfl, hj, h0, hw⟩ := PH_out (pv := (fun b : VS × VV × Int32 => b.2.2)) (PW := (fun (b : VS × VV × Int32) (w : va_W) => ∃ a : Nat → Nat, w = (wG (kD k) rG (aS 0) rV rN (aT 0) ++ (wS (kD k) aS b.1 ++ wV (kD k) rV a b.2.1)))) (w0 := (wG (kD k) rG (aS 0) rV rN (aT 0) ++ (wS (kD k) aS v ++ wV (kD k) rV aV z))) ok_discard hr hp
  obtain ⟨v2, z2, aV2, rfl, hs⟩ : ∃ v2 z2 aV2, w2 = (wG (kD k) rG (aS 0) rV rN (aT 0) ++ (wS (kD k) aS v2 ++ wV (kD k) rV aV2 z2)) ∧ SM (q + 400) v2 z2 tx n0 n1 m2 := by
    rcases hw with ⟨rfl, hs⟩ | ⟨a, ⟨aV2, rfl⟩, hs⟩
    · exact ⟨_, _, _, rfl, hs.mono (by omega)⟩
    · exact ⟨_, _, _, rfl, hs.mono (by omega)⟩
  refine g_Perm as4.symm ?_
  refine g_stack (st' := [.int j]) rfl ?_
  refine g_istore (pc := 247) (lv' := [(5, .int j), (4, .int i), (3, .ref rL), (2, .ref (aM 0)), (1, .ref rG), (0, .ref b)]) C dL_law_247 (by decide) rfl ?_
  refine g_aload_n (pc := 249) (x := aM 0) C dL_law_249 rfl ?_
  refine g_aload_n (pc := 250) (x := b) C dL_law_250 rfl ?_
  refine g_iload (pc := 251) (x := i) C dL_law_251 rfl ?_
  refine g_iconst (pc := 253) (v := 1) C dL_law_253 (by decide) ?_
  refine g_iadd (pc := 254) C dL_law_254 ?_
  refine g_xld (pc := 255) C X h1 e1 dL_law_255 ?_
  refine g_callV (pc := 256) (wc := wM (kD k) aM m) (wr := (wL (kD k) rL g2 ++ (wG (kD k) rG (aS 0) rV rN (aT 0) ++ (wS (kD k) aS v2 ++ (wV (kD k) rV aV2 z2 ++ (wT (kD k) aT tx ++ (wN (kD k) rN (fN a0 a1 n0 n1) ++ (wO (kD k) a0 n0 ++ wO (kD k) a1 n1)))))))) C (pm0 (pm0 (pm0 (pm0 (pm0 (pm0 (pm0 pmL))))))) (gr_V (y := yX5_discard) (As := [.int p1]) (rest := []) C (cX5_discard_ (kL k) C.tr (kD k) N aM m p1 (m2, y) hY) (fun ht => cwV 1 ht gL_law_X5_discard rfl rfl rfl hdX5_discard ⟨(Nat.le_of_ble_eq_true rfl), (Nat.le_of_ble_eq_true rfl)⟩) 0 rfl rfl _ (rg_map _ _) (rg_nd _) rfl rfl (Nat.le_of_ble_eq_true rfl) dL_law_256 ⟨by show cs + 2 + 0 ≤ _; omega, by show sl + 12 + 0 ≤ _; omega⟩) (fun rv w1 hp => ?_)
  obtain ⟨rfl, rfl⟩ := hp
  refine g_stack (st' := [.int y]) rfl ?_
  refine g_istore (pc := 259) (lv' := [(6, .int y), (5, .int j), (4, .int i), (3, .ref rL), (2, .ref (aM 0)), (1, .ref rG), (0, .ref b)]) C dL_law_259 (by decide) rfl ?_
  refine g_aload_n (pc := 261) (x := aM 0) C dL_law_261 rfl ?_
  refine g_callV (pc := 262) (wc := wM (kD k) aM m2) (wr := (wL (kD k) rL g2 ++ (wG (kD k) rG (aS 0) rV rN (aT 0) ++ (wS (kD k) aS v2 ++ (wV (kD k) rV aV2 z2 ++ (wT (kD k) aT tx ++ (wN (kD k) rN (fN a0 a1 n0 n1) ++ (wO (kD k) a0 n0 ++ wO (kD k) a1 n1)))))))) C (List.Perm.refl _) (gr_V (y := yX5_thrown) (As := []) (rest := []) C (cX5_thrown_ (kL k) C.tr (kD k) N aM m2 (mThr m2) rfl) (fun ht => cwV 0 ht gL_law_X5_thrown rfl rfl rfl hdX5_thrown ⟨(Nat.le_of_ble_eq_true rfl), (Nat.le_of_ble_eq_true rfl)⟩) 0 rfl rfl _ (rg_map _ _) (rg_nd _) rfl rfl (Nat.le_of_ble_eq_true rfl) dL_law_262 ⟨by show cs + 2 + 0 + 0 ≤ _; omega, by show sl + 12 + 0 + 0 ≤ _; omega⟩) (fun rv w1 hp => ?_)
  obtain ⟨rfl, rfl⟩ := hp
  refine g_stack (st' := [.int (mThr m2)]) rfl ?_
  refine g_iload (pc := 265) (x := j) C dL_law_265 rfl ?_
  refine g_icmpeqC (pc := 267) (tgt := 272) C hj dL_law_267 (by decide) ?_
  have END : gG k (wM (kD k) aM m2 ++ (wL (kD k) rL g2 ++ (wG (kD k) rG (aS 0) rV rN (aT 0) ++ (wS (kD k) aS v2 ++ (wV (kD k) rV aV2 z2 ++ (wT (kD k) aT tx ++ (wN (kD k) rN (fN a0 a1 n0 n1) ++ (wO (kD k) a0 n0 ++ wO (kD k) a1 n1)))))))) [(6, .int y), (5, .int j), (4, .int i), (3, .ref rL), (2, .ref (aM 0)), (1, .ref rG), (0, .ref b)] (cs + 2 + 0 + 0) (sl + 12 + 0 + 0) 289 [] := by
    refine g_goto (pc := 289) (tgt := 1811) C dL_law_289 (by decide) ?_
    refine g_lv [2, 3, 4, 5, 6] (lv' := lvW b rG rL aM i) rfl ?_
    refine g_widen (c2 := cs + 10) (s2 := sl + 163) (by omega) (by omega) ?_
    exact g_Perm ((pm0 (List.Perm.refl _)).trans (pmc ((pm0 (List.Perm.refl _)).trans (pmc ((pm0 (List.Perm.refl _)).trans (pmc ((pm0 (List.Perm.refl _)).trans (pmc ((pm0 (List.Perm.refl _)).trans (pmc ((pm0 (List.Perm.refl _)).trans (pmc ((pm0 (List.Perm.refl _)).trans (pmc pmL)))))))))))))) (K aV2 a0 a1 v2 z2 tx n0 n1 m2 g2 hs)
  refine g_iload (pc := 272) (x := j) C dL_law_272 rfl ?_
  refine g_ifneC (pc := 274) (tgt := 289) C dL_law_274 (by decide) (fun _ => END) (fun hj0 => ?_)
  refine g_aload_n (pc := 277) (x := rL) C dL_law_277 rfl ?_
  refine g_iconst (pc := 278) (v := 0) C dL_law_278 (by decide) ?_
  refine g_lald (pc := 279) (X := some ()) (r := ()) (n := 1) (f := g2) rfl C 10 rfl dL_law_279 (fun _ => ?_)
  refine g_iload (pc := 280) (x := y) C dL_law_280 rfl ?_
  refine g_i2l (pc := 282) C dL_law_282 ?_
  refine g_lcmp0 (pc := 283) C (h0 hj0) dL_law_283 ?_
  exact g_ifeqC (pc := 284) (tgt := 289) C dL_law_284 (by decide) (fun _ => END) (fun hz => absurd rfl hz)
theorem ok_calibrate : okC [(3, 1), (2, 2)] csL_calibrate := by decide +kernel
set_option maxRecDepth 100000 in
set_option maxHeartbeats 4000000 in
theorem op_calibrate {k : Kt} {nm : String} (C : gC k cL_law 9 RL wsL_law room_1 nm) {b L : Nat} {xs : Nat → Int32} (X : LX k b L xs) {N : Nat} (hN0 : 2097152 ≤ N) {rG rV rN rL : Nat} {aS aT aM aV a0 a1 : Nat → Nat} {v : VS} {z : VV} {tx : VT} {n0 n1 : Option VS} {m : VM} {g : Nat → Int64} {q : Nat} (hq : q ≤ 800000) (h : SM q v z tx n0 n1 m) {i : Int32} (h1 : vp_in (i + 1) L) (h2 : vp_in (i + 2) L) {cs sl : Nat} (hcs : cs + 10 ≤ room_1.cells) (hsl : sl + 163 ≤ room_1.slots) (K : KK k b rG rV rN rL aS aT aM (q + 400) i (cs + 10) (sl + 163)) : gG k (wAll (kD k) rG rV rN rL aS aT aM aV a0 a1 v z tx n0 n1 m g) (lvW b rG rL aM i) cs sl 292 [] := by
  obtain ⟨p1, e1⟩ : ∃ p1, xs (i + 1).toNatClampNeg = p1 := ⟨_, rfl⟩
  obtain ⟨p2, e2⟩ : ∃ p2, xs (i + 2).toNatClampNeg = p2 := ⟨_, rfl⟩
  unfold wAll lvW
  obtain ⟨r, m2, y, hX, hY, hr⟩ := (sim_calibrate hN0 (by omega) h p1).out
  refine g_aload_n (pc := 292) (x := rG) C dL_law_292 rfl ?_
  refine g_aload_n (pc := 293) (x := b) C dL_law_293 rfl ?_
  refine g_iload (pc := 294) (x := i) C dL_law_294 rfl ?_
  refine g_iconst (pc := 296) (v := 1) C dL_law_296 (by decide) ?_
  refine g_iadd (pc := 297) C dL_law_297 ?_
  refine g_xld (pc := 298) C X h1 e1 dL_law_298 ?_
  refine g_aload_n (pc := 299) (x := rL) C dL_law_299 rfl ?_
  refine g_callM (pc := 300) (wr := (wT (kD k) aT tx ++ (wN (kD k) rN (fN a0 a1 n0 n1) ++ (wO (kD k) a0 n0 ++ (wO (kD k) a1 n1 ++ wM (kD k) aM m))))) (rest := []) C as4 (cL_calibrate_ (kL k) C.tr (kD k) rG rL g p1 _ _ (wG (kD k) rG (aS 0) rV rN (aT 0) ++ (wS (kD k) aS v ++ wV (kD k) rV aV z)) rfl _ _ (cX4_calibrate_ (kL k) C.tr (kD k) N rG rN (aT 0) aS rV aV v z p1 r hX) (fun rv w h => by
      obtain ⟨a, -, e, -⟩ := h
      exact ⟨_, e⟩) (fun X w h => by
      obtain ⟨t, ht, e⟩ := PX_in ok_calibrate hr X w h
      rcases List.mem_cons.mp ht with rfl | ht
      · exact .inl e
      · rw [List.mem_singleton.mp ht] at e
        exact .inr e)) (fun ht => vx_cwSW 3 ht gL_law_L_calibrate rfl rfl rfl hsL_calibrate ⟨(Nat.le_of_ble_eq_true rfl), (Nat.le_of_ble_eq_true rfl)⟩) rfl rfl (Nat.le_of_ble_eq_true rfl) dL_law_300 ⟨by show cs + 2 ≤ _; omega, by show sl + 12 ≤ _; omega⟩ (fun rv w1 hp => ?_)
  obtain ⟨j, g2, w2, rfl, rfl, hj, h0, hw⟩ := PH_out (pv := (fun b : VS × VV × Int32 => b.2.2)) (PW := (fun (b : VS × VV × Int32) (w : va_W) => ∃ a : Nat → Nat, w = (wG (kD k) rG (aS 0) rV rN (aT 0) ++ (wS (kD k) aS b.1 ++ wV (kD k) rV a b.2.1)))) (w0 := (wG (kD k) rG (aS 0) rV rN (aT 0) ++ (wS (kD k) aS v ++ wV (kD k) rV aV z))) ok_calibrate hr hp
  obtain ⟨v2, z2, aV2, rfl, hs⟩ : ∃ v2 z2 aV2, w2 = (wG (kD k) rG (aS 0) rV rN (aT 0) ++ (wS (kD k) aS v2 ++ wV (kD k) rV aV2 z2)) ∧ SM (q + 400) v2 z2 tx n0 n1 m2 := by
    rcases hw with ⟨rfl, hs⟩ | ⟨a, ⟨aV2, rfl⟩, hs⟩
    · exact ⟨_, _, _, rfl, hs.mono (by omega)⟩
    · exact ⟨_, _, _, rfl, hs.mono (by omega)⟩
  refine g_Perm as4.symm ?_
  refine g_stack (st' := [.int j]) rfl ?_
  refine g_istore (pc := 303) (lv' := [(5, .int j), (4, .int i), (3, .ref rL), (2, .ref (aM 0)), (1, .ref rG), (0, .ref b)]) C dL_law_303 (by decide) rfl ?_
  refine g_aload_n (pc := 305) (x := aM 0) C dL_law_305 rfl ?_
  refine g_aload_n (pc := 306) (x := b) C dL_law_306 rfl ?_
  refine g_iload (pc := 307) (x := i) C dL_law_307 rfl ?_
  refine g_iconst (pc := 309) (v := 1) C dL_law_309 (by decide) ?_
  refine g_iadd (pc := 310) C dL_law_310 ?_
  refine g_xld (pc := 311) C X h1 e1 dL_law_311 ?_
  refine g_callV (pc := 312) (wc := wM (kD k) aM m) (wr := (wL (kD k) rL g2 ++ (wG (kD k) rG (aS 0) rV rN (aT 0) ++ (wS (kD k) aS v2 ++ (wV (kD k) rV aV2 z2 ++ (wT (kD k) aT tx ++ (wN (kD k) rN (fN a0 a1 n0 n1) ++ (wO (kD k) a0 n0 ++ wO (kD k) a1 n1)))))))) C (pm0 (pm0 (pm0 (pm0 (pm0 (pm0 (pm0 pmL))))))) (gr_V (y := yX5_calibrate) (As := [.int p1]) (rest := []) C (cX5_calibrate_ (kL k) C.tr (kD k) N aM m p1 (m2, y) hY) (fun ht => cwV 1 ht gL_law_X5_calibrate rfl rfl rfl hdX5_calibrate ⟨(Nat.le_of_ble_eq_true rfl), (Nat.le_of_ble_eq_true rfl)⟩) 0 rfl rfl _ (rg_map _ _) (rg_nd _) rfl rfl (Nat.le_of_ble_eq_true rfl) dL_law_312 ⟨by show cs + 2 + 0 ≤ _; omega, by show sl + 12 + 0 ≤ _; omega⟩) (fun rv w1 hp => ?_)
  obtain ⟨rfl, rfl⟩ := hp
  refine g_stack (st' := [.int y]) rfl ?_
  refine g_istore (pc := 315) (lv' := [(6, .int y), (5, .int j), (4, .int i), (3, .ref rL), (2, .ref (aM 0)), (1, .ref rG), (0, .ref b)]) C dL_law_315 (by decide) rfl ?_
  refine g_aload_n (pc := 317) (x := aM 0) C dL_law_317 rfl ?_
  refine g_callV (pc := 318) (wc := wM (kD k) aM m2) (wr := (wL (kD k) rL g2 ++ (wG (kD k) rG (aS 0) rV rN (aT 0) ++ (wS (kD k) aS v2 ++ (wV (kD k) rV aV2 z2 ++ (wT (kD k) aT tx ++ (wN (kD k) rN (fN a0 a1 n0 n1) ++ (wO (kD k) a0 n0 ++ wO (kD k) a1 n1)))))))) C (List.Perm.refl _) (gr_V (y := yX5_thrown) (As := []) (rest := []) C (cX5_thrown_ (kL k) C.tr (kD k) N aM m2 (mThr m2) rfl) (fun ht => cwV 0 ht gL_law_X5_thrown rfl rfl rfl hdX5_thrown ⟨(Nat.le_of_ble_eq_true rfl), (Nat.le_of_ble_eq_true rfl)⟩) 0 rfl rfl _ (rg_map _ _) (rg_nd _) rfl rfl (Nat.le_of_ble_eq_true rfl) dL_law_318 ⟨by show cs + 2 + 0 + 0 ≤ _; omega, by show sl + 12 + 0 + 0 ≤ _; omega⟩) (fun rv w1 hp => ?_)
  obtain ⟨rfl, rfl⟩ := hp
  refine g_stack (st' := [.int (mThr m2)]) rfl ?_
  refine g_iload (pc := 321) (x := j) C dL_law_321 rfl ?_
  refine g_icmpeqC (pc := 323) (tgt := 328) C hj dL_law_323 (by decide) ?_
  have END : gG k (wM (kD k) aM m2 ++ (wL (kD k) rL g2 ++ (wG (kD k) rG (aS 0) rV rN (aT 0) ++ (wS (kD k) aS v2 ++ (wV (kD k) rV aV2 z2 ++ (wT (kD k) aT tx ++ (wN (kD k) rN (fN a0 a1 n0 n1) ++ (wO (kD k) a0 n0 ++ wO (kD k) a1 n1)))))))) [(6, .int y), (5, .int j), (4, .int i), (3, .ref rL), (2, .ref (aM 0)), (1, .ref rG), (0, .ref b)] (cs + 2 + 0 + 0) (sl + 12 + 0 + 0) 345 [] := by
    refine g_goto (pc := 345) (tgt := 1811) C dL_law_345 (by decide) ?_
    refine g_lv [2, 3, 4, 5, 6] (lv' := lvW b rG rL aM i) rfl ?_
    refine g_widen (c2 := cs + 10) (s2 := sl + 163) (by omega) (by omega) ?_
    exact g_Perm ((pm0 (List.Perm.refl _)).trans (pmc ((pm0 (List.Perm.refl _)).trans (pmc ((pm0 (List.Perm.refl _)).trans (pmc ((pm0 (List.Perm.refl _)).trans (pmc ((pm0 (List.Perm.refl _)).trans (pmc ((pm0 (List.Perm.refl _)).trans (pmc ((pm0 (List.Perm.refl _)).trans (pmc pmL)))))))))))))) (K aV2 a0 a1 v2 z2 tx n0 n1 m2 g2 hs)
  refine g_iload (pc := 328) (x := j) C dL_law_328 rfl ?_
  refine g_ifneC (pc := 330) (tgt := 345) C dL_law_330 (by decide) (fun _ => END) (fun hj0 => ?_)
  refine g_aload_n (pc := 333) (x := rL) C dL_law_333 rfl ?_
  refine g_iconst (pc := 334) (v := 0) C dL_law_334 (by decide) ?_
  refine g_lald (pc := 335) (X := some ()) (r := ()) (n := 1) (f := g2) rfl C 10 rfl dL_law_335 (fun _ => ?_)
  refine g_iload (pc := 336) (x := y) C dL_law_336 rfl ?_
  refine g_i2l (pc := 338) C dL_law_338 ?_
  refine g_lcmp0 (pc := 339) C (h0 hj0) dL_law_339 ?_
  exact g_ifeqC (pc := 340) (tgt := 345) C dL_law_340 (by decide) (fun _ => END) (fun hz => absurd rfl hz)
theorem ok_hold : okC [(3, 1), (1, 2)] csL_hold := by decide +kernel
set_option maxRecDepth 100000 in
set_option maxHeartbeats 4000000 in
theorem op_hold {k : Kt} {nm : String} (C : gC k cL_law 9 RL wsL_law room_1 nm) {b L : Nat} {xs : Nat → Int32} (X : LX k b L xs) {N : Nat} (hN0 : 2097152 ≤ N) {rG rV rN rL : Nat} {aS aT aM aV a0 a1 : Nat → Nat} {v : VS} {z : VV} {tx : VT} {n0 n1 : Option VS} {m : VM} {g : Nat → Int64} {q : Nat} (hq : q ≤ 800000) (h : SM q v z tx n0 n1 m) {i : Int32} (h1 : vp_in (i + 1) L) (h2 : vp_in (i + 2) L) {cs sl : Nat} (hcs : cs + 10 ≤ room_1.cells) (hsl : sl + 163 ≤ room_1.slots) (K : KK k b rG rV rN rL aS aT aM (q + 400) i (cs + 10) (sl + 163)) : gG k (wAll (kD k) rG rV rN rL aS aT aM aV a0 a1 v z tx n0 n1 m g) (lvW b rG rL aM i) cs sl 348 [] := by
  obtain ⟨p1, e1⟩ : ∃ p1, xs (i + 1).toNatClampNeg = p1 := ⟨_, rfl⟩
  obtain ⟨p2, e2⟩ : ∃ p2, xs (i + 2).toNatClampNeg = p2 := ⟨_, rfl⟩
  unfold wAll lvW
  obtain ⟨r, m2, y, hX, hY, hr⟩ := (sim_hold hN0 h p1 p2).out
  refine g_aload_n (pc := 348) (x := rG) C dL_law_348 rfl ?_
  refine g_aload_n (pc := 349) (x := b) C dL_law_349 rfl ?_
  refine g_iload (pc := 350) (x := i) C dL_law_350 rfl ?_
  refine g_iconst (pc := 352) (v := 1) C dL_law_352 (by decide) ?_
  refine g_iadd (pc := 353) C dL_law_353 ?_
  refine g_xld (pc := 354) C X h1 e1 dL_law_354 ?_
  refine g_aload_n (pc := 355) (x := b) C dL_law_355 rfl ?_
  refine g_iload (pc := 356) (x := i) C dL_law_356 rfl ?_
  refine g_iconst (pc := 358) (v := 2) C dL_law_358 (by decide) ?_
  refine g_iadd (pc := 359) C dL_law_359 ?_
  refine g_xld (pc := 360) C X h2 e2 dL_law_360 ?_
  refine g_aload_n (pc := 361) (x := rL) C dL_law_361 rfl ?_
  refine g_callM (pc := 362) (wr := (wT (kD k) aT tx ++ (wN (kD k) rN (fN a0 a1 n0 n1) ++ (wO (kD k) a0 n0 ++ (wO (kD k) a1 n1 ++ wM (kD k) aM m))))) (rest := []) C as4 (cL_hold_ (kL k) C.tr (kD k) rG rL g p1 p2 _ _ (wG (kD k) rG (aS 0) rV rN (aT 0) ++ (wS (kD k) aS v ++ wV (kD k) rV aV z)) rfl _ _ (cX4_hold_ (kL k) C.tr (kD k) N rG rN (aT 0) aS rV aV v z p1 p2 r hX) (fun rv w h => by
      obtain ⟨a, -, e, -⟩ := h
      exact ⟨_, e⟩) (fun X w h => by
      obtain ⟨t, ht, e⟩ := PX_in ok_hold hr X w h
      rcases List.mem_cons.mp ht with rfl | ht
      · exact .inl e
      · rw [List.mem_singleton.mp ht] at e
        exact .inr e)) (fun ht => vx_cwSW 4 ht gL_law_L_hold rfl rfl rfl hsL_hold ⟨(Nat.le_of_ble_eq_true rfl), (Nat.le_of_ble_eq_true rfl)⟩) rfl rfl (Nat.le_of_ble_eq_true rfl) dL_law_362 ⟨by show cs + 2 ≤ _; omega, by show sl + 12 ≤ _; omega⟩ (fun rv w1 hp => ?_)
  obtain ⟨j, g2, w2, rfl, rfl, hj, h0, hw⟩ := PH_out (pv := (fun b : VS × VV × Int32 => b.2.2)) (PW := (fun (b : VS × VV × Int32) (w : va_W) => ∃ a : Nat → Nat, w = (wG (kD k) rG (aS 0) rV rN (aT 0) ++ (wS (kD k) aS b.1 ++ wV (kD k) rV a b.2.1)))) (w0 := (wG (kD k) rG (aS 0) rV rN (aT 0) ++ (wS (kD k) aS v ++ wV (kD k) rV aV z))) ok_hold hr hp
  obtain ⟨v2, z2, aV2, rfl, hs⟩ : ∃ v2 z2 aV2, w2 = (wG (kD k) rG (aS 0) rV rN (aT 0) ++ (wS (kD k) aS v2 ++ wV (kD k) rV aV2 z2)) ∧ SM (q + 400) v2 z2 tx n0 n1 m2 := by
    rcases hw with ⟨rfl, hs⟩ | ⟨a, ⟨aV2, rfl⟩, hs⟩
    · exact ⟨_, _, _, rfl, hs.mono (by omega)⟩
    · exact ⟨_, _, _, rfl, hs.mono (by omega)⟩
  refine g_Perm as4.symm ?_
  refine g_stack (st' := [.int j]) rfl ?_
  refine g_istore (pc := 365) (lv' := [(5, .int j), (4, .int i), (3, .ref rL), (2, .ref (aM 0)), (1, .ref rG), (0, .ref b)]) C dL_law_365 (by decide) rfl ?_
  refine g_aload_n (pc := 367) (x := aM 0) C dL_law_367 rfl ?_
  refine g_aload_n (pc := 368) (x := b) C dL_law_368 rfl ?_
  refine g_iload (pc := 369) (x := i) C dL_law_369 rfl ?_
  refine g_iconst (pc := 371) (v := 1) C dL_law_371 (by decide) ?_
  refine g_iadd (pc := 372) C dL_law_372 ?_
  refine g_xld (pc := 373) C X h1 e1 dL_law_373 ?_
  refine g_aload_n (pc := 374) (x := b) C dL_law_374 rfl ?_
  refine g_iload (pc := 375) (x := i) C dL_law_375 rfl ?_
  refine g_iconst (pc := 377) (v := 2) C dL_law_377 (by decide) ?_
  refine g_iadd (pc := 378) C dL_law_378 ?_
  refine g_xld (pc := 379) C X h2 e2 dL_law_379 ?_
  refine g_callV (pc := 380) (wc := wM (kD k) aM m) (wr := (wL (kD k) rL g2 ++ (wG (kD k) rG (aS 0) rV rN (aT 0) ++ (wS (kD k) aS v2 ++ (wV (kD k) rV aV2 z2 ++ (wT (kD k) aT tx ++ (wN (kD k) rN (fN a0 a1 n0 n1) ++ (wO (kD k) a0 n0 ++ wO (kD k) a1 n1)))))))) C (pm0 (pm0 (pm0 (pm0 (pm0 (pm0 (pm0 pmL))))))) (gr_V (y := yX5_hold) (As := [.int p1, .int p2]) (rest := []) C (cX5_hold_ (kL k) C.tr (kD k) N aM m p1 p2 (m2, y) hY) (fun ht => cwV 2 ht gL_law_X5_hold rfl rfl rfl hdX5_hold ⟨(Nat.le_of_ble_eq_true rfl), (Nat.le_of_ble_eq_true rfl)⟩) 0 rfl rfl _ (rg_map _ _) (rg_nd _) rfl rfl (Nat.le_of_ble_eq_true rfl) dL_law_380 ⟨by show cs + 2 + 0 ≤ _; omega, by show sl + 12 + 0 ≤ _; omega⟩) (fun rv w1 hp => ?_)
  obtain ⟨rfl, rfl⟩ := hp
  refine g_stack (st' := [.int y]) rfl ?_
  refine g_istore (pc := 383) (lv' := [(6, .int y), (5, .int j), (4, .int i), (3, .ref rL), (2, .ref (aM 0)), (1, .ref rG), (0, .ref b)]) C dL_law_383 (by decide) rfl ?_
  refine g_aload_n (pc := 385) (x := aM 0) C dL_law_385 rfl ?_
  refine g_callV (pc := 386) (wc := wM (kD k) aM m2) (wr := (wL (kD k) rL g2 ++ (wG (kD k) rG (aS 0) rV rN (aT 0) ++ (wS (kD k) aS v2 ++ (wV (kD k) rV aV2 z2 ++ (wT (kD k) aT tx ++ (wN (kD k) rN (fN a0 a1 n0 n1) ++ (wO (kD k) a0 n0 ++ wO (kD k) a1 n1)))))))) C (List.Perm.refl _) (gr_V (y := yX5_thrown) (As := []) (rest := []) C (cX5_thrown_ (kL k) C.tr (kD k) N aM m2 (mThr m2) rfl) (fun ht => cwV 0 ht gL_law_X5_thrown rfl rfl rfl hdX5_thrown ⟨(Nat.le_of_ble_eq_true rfl), (Nat.le_of_ble_eq_true rfl)⟩) 0 rfl rfl _ (rg_map _ _) (rg_nd _) rfl rfl (Nat.le_of_ble_eq_true rfl) dL_law_386 ⟨by show cs + 2 + 0 + 0 ≤ _; omega, by show sl + 12 + 0 + 0 ≤ _; omega⟩) (fun rv w1 hp => ?_)
  obtain ⟨rfl, rfl⟩ := hp
  refine g_stack (st' := [.int (mThr m2)]) rfl ?_
  refine g_iload (pc := 389) (x := j) C dL_law_389 rfl ?_
  refine g_icmpeqC (pc := 391) (tgt := 396) C hj dL_law_391 (by decide) ?_
  have END : gG k (wM (kD k) aM m2 ++ (wL (kD k) rL g2 ++ (wG (kD k) rG (aS 0) rV rN (aT 0) ++ (wS (kD k) aS v2 ++ (wV (kD k) rV aV2 z2 ++ (wT (kD k) aT tx ++ (wN (kD k) rN (fN a0 a1 n0 n1) ++ (wO (kD k) a0 n0 ++ wO (kD k) a1 n1)))))))) [(6, .int y), (5, .int j), (4, .int i), (3, .ref rL), (2, .ref (aM 0)), (1, .ref rG), (0, .ref b)] (cs + 2 + 0 + 0) (sl + 12 + 0 + 0) 413 [] := by
    refine g_goto (pc := 413) (tgt := 1811) C dL_law_413 (by decide) ?_
    refine g_lv [2, 3, 4, 5, 6] (lv' := lvW b rG rL aM i) rfl ?_
    refine g_widen (c2 := cs + 10) (s2 := sl + 163) (by omega) (by omega) ?_
    exact g_Perm ((pm0 (List.Perm.refl _)).trans (pmc ((pm0 (List.Perm.refl _)).trans (pmc ((pm0 (List.Perm.refl _)).trans (pmc ((pm0 (List.Perm.refl _)).trans (pmc ((pm0 (List.Perm.refl _)).trans (pmc ((pm0 (List.Perm.refl _)).trans (pmc ((pm0 (List.Perm.refl _)).trans (pmc pmL)))))))))))))) (K aV2 a0 a1 v2 z2 tx n0 n1 m2 g2 hs)
  refine g_iload (pc := 396) (x := j) C dL_law_396 rfl ?_
  refine g_ifneC (pc := 398) (tgt := 413) C dL_law_398 (by decide) (fun _ => END) (fun hj0 => ?_)
  refine g_aload_n (pc := 401) (x := rL) C dL_law_401 rfl ?_
  refine g_iconst (pc := 402) (v := 0) C dL_law_402 (by decide) ?_
  refine g_lald (pc := 403) (X := some ()) (r := ()) (n := 1) (f := g2) rfl C 10 rfl dL_law_403 (fun _ => ?_)
  refine g_iload (pc := 404) (x := y) C dL_law_404 rfl ?_
  refine g_i2l (pc := 406) C dL_law_406 ?_
  refine g_lcmp0 (pc := 407) C (h0 hj0) dL_law_407 ?_
  exact g_ifeqC (pc := 408) (tgt := 413) C dL_law_408 (by decide) (fun _ => END) (fun hz => absurd rfl hz)
theorem ok_rest : okC [(1, 1)] csL_rest := by decide +kernel
set_option maxRecDepth 100000 in
set_option maxHeartbeats 4000000 in
theorem op_rest {k : Kt} {nm : String} (C : gC k cL_law 9 RL wsL_law room_1 nm) {b L : Nat} {xs : Nat → Int32} (X : LX k b L xs) {N : Nat} (hN0 : 2097152 ≤ N) {rG rV rN rL : Nat} {aS aT aM aV a0 a1 : Nat → Nat} {v : VS} {z : VV} {tx : VT} {n0 n1 : Option VS} {m : VM} {g : Nat → Int64} {q : Nat} (hq : q ≤ 800000) (h : SM q v z tx n0 n1 m) {i : Int32} (h1 : vp_in (i + 1) L) (h2 : vp_in (i + 2) L) {cs sl : Nat} (hcs : cs + 10 ≤ room_1.cells) (hsl : sl + 163 ≤ room_1.slots) (K : KK k b rG rV rN rL aS aT aM (q + 400) i (cs + 10) (sl + 163)) : gG k (wAll (kD k) rG rV rN rL aS aT aM aV a0 a1 v z tx n0 n1 m g) (lvW b rG rL aM i) cs sl 416 [] := by
  obtain ⟨p1, e1⟩ : ∃ p1, xs (i + 1).toNatClampNeg = p1 := ⟨_, rfl⟩
  obtain ⟨p2, e2⟩ : ∃ p2, xs (i + 2).toNatClampNeg = p2 := ⟨_, rfl⟩
  unfold wAll lvW
  obtain ⟨r, m2, y, hX, hY, hr⟩ := (sim_rest hN0 h p1).out
  refine g_aload_n (pc := 416) (x := rG) C dL_law_416 rfl ?_
  refine g_aload_n (pc := 417) (x := b) C dL_law_417 rfl ?_
  refine g_iload (pc := 418) (x := i) C dL_law_418 rfl ?_
  refine g_iconst (pc := 420) (v := 1) C dL_law_420 (by decide) ?_
  refine g_iadd (pc := 421) C dL_law_421 ?_
  refine g_xld (pc := 422) C X h1 e1 dL_law_422 ?_
  refine g_aload_n (pc := 423) (x := rL) C dL_law_423 rfl ?_
  refine g_callM (pc := 424) (wr := (wT (kD k) aT tx ++ (wN (kD k) rN (fN a0 a1 n0 n1) ++ (wO (kD k) a0 n0 ++ (wO (kD k) a1 n1 ++ wM (kD k) aM m))))) (rest := []) C as4 (cL_rest_ (kL k) C.tr (kD k) rG rL g p1 _ _ (wG (kD k) rG (aS 0) rV rN (aT 0) ++ (wS (kD k) aS v ++ wV (kD k) rV aV z)) rfl _ _ (cX4_rest_ (kL k) C.tr (kD k) N rG rN (aT 0) aS rV aV v z p1 r hX) (fun rv w h => by
      obtain ⟨a, -, e, -⟩ := h
      exact ⟨_, e⟩) (fun X w h => by
      obtain ⟨t, ht, e⟩ := PX_in ok_rest hr X w h
      rw [List.mem_singleton.mp ht] at e
      exact e)) (fun ht => vx_cwSW 3 ht gL_law_L_rest rfl rfl rfl hsL_rest ⟨(Nat.le_of_ble_eq_true rfl), (Nat.le_of_ble_eq_true rfl)⟩) rfl rfl (Nat.le_of_ble_eq_true rfl) dL_law_424 ⟨by show cs + 1 ≤ _; omega, by show sl + 6 ≤ _; omega⟩ (fun rv w1 hp => ?_)
  obtain ⟨j, g2, w2, rfl, rfl, hj, h0, hw⟩ := PH_out (pv := (fun b : VS × VV × Int32 => b.2.2)) (PW := (fun (b : VS × VV × Int32) (w : va_W) => ∃ a : Nat → Nat, w = (wG (kD k) rG (aS 0) rV rN (aT 0) ++ (wS (kD k) aS b.1 ++ wV (kD k) rV a b.2.1)))) (w0 := (wG (kD k) rG (aS 0) rV rN (aT 0) ++ (wS (kD k) aS v ++ wV (kD k) rV aV z))) ok_rest hr hp
  obtain ⟨v2, z2, aV2, rfl, hs⟩ : ∃ v2 z2 aV2, w2 = (wG (kD k) rG (aS 0) rV rN (aT 0) ++ (wS (kD k) aS v2 ++ wV (kD k) rV aV2 z2)) ∧ SM (q + 400) v2 z2 tx n0 n1 m2 := by
    rcases hw with ⟨rfl, hs⟩ | ⟨a, ⟨aV2, rfl⟩, hs⟩
    · exact ⟨_, _, _, rfl, hs.mono (by omega)⟩
    · exact ⟨_, _, _, rfl, hs.mono (by omega)⟩
  refine g_Perm as4.symm ?_
  refine g_stack (st' := [.int j]) rfl ?_
  refine g_istore (pc := 427) (lv' := [(5, .int j), (4, .int i), (3, .ref rL), (2, .ref (aM 0)), (1, .ref rG), (0, .ref b)]) C dL_law_427 (by decide) rfl ?_
  refine g_aload_n (pc := 429) (x := aM 0) C dL_law_429 rfl ?_
  refine g_aload_n (pc := 430) (x := b) C dL_law_430 rfl ?_
  refine g_iload (pc := 431) (x := i) C dL_law_431 rfl ?_
  refine g_iconst (pc := 433) (v := 1) C dL_law_433 (by decide) ?_
  refine g_iadd (pc := 434) C dL_law_434 ?_
  refine g_xld (pc := 435) C X h1 e1 dL_law_435 ?_
  refine g_callV (pc := 436) (wc := wM (kD k) aM m) (wr := (wL (kD k) rL g2 ++ (wG (kD k) rG (aS 0) rV rN (aT 0) ++ (wS (kD k) aS v2 ++ (wV (kD k) rV aV2 z2 ++ (wT (kD k) aT tx ++ (wN (kD k) rN (fN a0 a1 n0 n1) ++ (wO (kD k) a0 n0 ++ wO (kD k) a1 n1)))))))) C (pm0 (pm0 (pm0 (pm0 (pm0 (pm0 (pm0 pmL))))))) (gr_V (y := yX5_rest) (As := [.int p1]) (rest := []) C (cX5_rest_ (kL k) C.tr (kD k) N aM m p1 (m2, y) hY) (fun ht => cwV 1 ht gL_law_X5_rest rfl rfl rfl hdX5_rest ⟨(Nat.le_of_ble_eq_true rfl), (Nat.le_of_ble_eq_true rfl)⟩) 0 rfl rfl _ (rg_map _ _) (rg_nd _) rfl rfl (Nat.le_of_ble_eq_true rfl) dL_law_436 ⟨by show cs + 1 + 0 ≤ _; omega, by show sl + 6 + 0 ≤ _; omega⟩) (fun rv w1 hp => ?_)
  obtain ⟨rfl, rfl⟩ := hp
  refine g_stack (st' := [.int y]) rfl ?_
  refine g_istore (pc := 439) (lv' := [(6, .int y), (5, .int j), (4, .int i), (3, .ref rL), (2, .ref (aM 0)), (1, .ref rG), (0, .ref b)]) C dL_law_439 (by decide) rfl ?_
  refine g_aload_n (pc := 441) (x := aM 0) C dL_law_441 rfl ?_
  refine g_callV (pc := 442) (wc := wM (kD k) aM m2) (wr := (wL (kD k) rL g2 ++ (wG (kD k) rG (aS 0) rV rN (aT 0) ++ (wS (kD k) aS v2 ++ (wV (kD k) rV aV2 z2 ++ (wT (kD k) aT tx ++ (wN (kD k) rN (fN a0 a1 n0 n1) ++ (wO (kD k) a0 n0 ++ wO (kD k) a1 n1)))))))) C (List.Perm.refl _) (gr_V (y := yX5_thrown) (As := []) (rest := []) C (cX5_thrown_ (kL k) C.tr (kD k) N aM m2 (mThr m2) rfl) (fun ht => cwV 0 ht gL_law_X5_thrown rfl rfl rfl hdX5_thrown ⟨(Nat.le_of_ble_eq_true rfl), (Nat.le_of_ble_eq_true rfl)⟩) 0 rfl rfl _ (rg_map _ _) (rg_nd _) rfl rfl (Nat.le_of_ble_eq_true rfl) dL_law_442 ⟨by show cs + 1 + 0 + 0 ≤ _; omega, by show sl + 6 + 0 + 0 ≤ _; omega⟩) (fun rv w1 hp => ?_)
  obtain ⟨rfl, rfl⟩ := hp
  refine g_stack (st' := [.int (mThr m2)]) rfl ?_
  refine g_iload (pc := 445) (x := j) C dL_law_445 rfl ?_
  refine g_icmpeqC (pc := 447) (tgt := 452) C hj dL_law_447 (by decide) ?_
  have END : gG k (wM (kD k) aM m2 ++ (wL (kD k) rL g2 ++ (wG (kD k) rG (aS 0) rV rN (aT 0) ++ (wS (kD k) aS v2 ++ (wV (kD k) rV aV2 z2 ++ (wT (kD k) aT tx ++ (wN (kD k) rN (fN a0 a1 n0 n1) ++ (wO (kD k) a0 n0 ++ wO (kD k) a1 n1)))))))) [(6, .int y), (5, .int j), (4, .int i), (3, .ref rL), (2, .ref (aM 0)), (1, .ref rG), (0, .ref b)] (cs + 1 + 0 + 0) (sl + 6 + 0 + 0) 469 [] := by
    refine g_goto (pc := 469) (tgt := 1811) C dL_law_469 (by decide) ?_
    refine g_lv [2, 3, 4, 5, 6] (lv' := lvW b rG rL aM i) rfl ?_
    refine g_widen (c2 := cs + 10) (s2 := sl + 163) (by omega) (by omega) ?_
    exact g_Perm ((pm0 (List.Perm.refl _)).trans (pmc ((pm0 (List.Perm.refl _)).trans (pmc ((pm0 (List.Perm.refl _)).trans (pmc ((pm0 (List.Perm.refl _)).trans (pmc ((pm0 (List.Perm.refl _)).trans (pmc ((pm0 (List.Perm.refl _)).trans (pmc ((pm0 (List.Perm.refl _)).trans (pmc pmL)))))))))))))) (K aV2 a0 a1 v2 z2 tx n0 n1 m2 g2 hs)
  refine g_iload (pc := 452) (x := j) C dL_law_452 rfl ?_
  refine g_ifneC (pc := 454) (tgt := 469) C dL_law_454 (by decide) (fun _ => END) (fun hj0 => ?_)
  refine g_aload_n (pc := 457) (x := rL) C dL_law_457 rfl ?_
  refine g_iconst (pc := 458) (v := 0) C dL_law_458 (by decide) ?_
  refine g_lald (pc := 459) (X := some ()) (r := ()) (n := 1) (f := g2) rfl C 10 rfl dL_law_459 (fun _ => ?_)
  refine g_iload (pc := 460) (x := y) C dL_law_460 rfl ?_
  refine g_i2l (pc := 462) C dL_law_462 ?_
  refine g_lcmp0 (pc := 463) C (h0 hj0) dL_law_463 ?_
  exact g_ifeqC (pc := 464) (tgt := 469) C dL_law_464 (by decide) (fun _ => END) (fun hz => absurd rfl hz)
theorem ok_set : okC [(3, 1), (1, 2)] csL_set := by decide +kernel
set_option maxRecDepth 100000 in
set_option maxHeartbeats 4000000 in
theorem op_set {k : Kt} {nm : String} (C : gC k cL_law 9 RL wsL_law room_1 nm) {b L : Nat} {xs : Nat → Int32} (X : LX k b L xs) {N : Nat} (hN0 : 2097152 ≤ N) {rG rV rN rL : Nat} {aS aT aM aV a0 a1 : Nat → Nat} {v : VS} {z : VV} {tx : VT} {n0 n1 : Option VS} {m : VM} {g : Nat → Int64} {q : Nat} (hq : q ≤ 800000) (h : SM q v z tx n0 n1 m) {i : Int32} (h1 : vp_in (i + 1) L) (h2 : vp_in (i + 2) L) {cs sl : Nat} (hcs : cs + 10 ≤ room_1.cells) (hsl : sl + 163 ≤ room_1.slots) (K : KK k b rG rV rN rL aS aT aM (q + 400) i (cs + 10) (sl + 163)) : gG k (wAll (kD k) rG rV rN rL aS aT aM aV a0 a1 v z tx n0 n1 m g) (lvW b rG rL aM i) cs sl 472 [] := by
  obtain ⟨p1, e1⟩ : ∃ p1, xs (i + 1).toNatClampNeg = p1 := ⟨_, rfl⟩
  obtain ⟨p2, e2⟩ : ∃ p2, xs (i + 2).toNatClampNeg = p2 := ⟨_, rfl⟩
  unfold wAll lvW
  obtain ⟨r, m2, y, hX, hY, hr⟩ := (sim_set hN0 h p1 p2).out
  refine g_aload_n (pc := 472) (x := rG) C dL_law_472 rfl ?_
  refine g_aload_n (pc := 473) (x := b) C dL_law_473 rfl ?_
  refine g_iload (pc := 474) (x := i) C dL_law_474 rfl ?_
  refine g_iconst (pc := 476) (v := 1) C dL_law_476 (by decide) ?_
  refine g_iadd (pc := 477) C dL_law_477 ?_
  refine g_xld (pc := 478) C X h1 e1 dL_law_478 ?_
  refine g_aload_n (pc := 479) (x := b) C dL_law_479 rfl ?_
  refine g_iload (pc := 480) (x := i) C dL_law_480 rfl ?_
  refine g_iconst (pc := 482) (v := 2) C dL_law_482 (by decide) ?_
  refine g_iadd (pc := 483) C dL_law_483 ?_
  refine g_xld (pc := 484) C X h2 e2 dL_law_484 ?_
  refine g_aload_n (pc := 485) (x := rL) C dL_law_485 rfl ?_
  refine g_callM (pc := 486) (wr := (wT (kD k) aT tx ++ (wN (kD k) rN (fN a0 a1 n0 n1) ++ (wO (kD k) a0 n0 ++ (wO (kD k) a1 n1 ++ wM (kD k) aM m))))) (rest := []) C as4 (cL_set_ (kL k) C.tr (kD k) rG rL g p1 p2 _ _ (wG (kD k) rG (aS 0) rV rN (aT 0) ++ (wS (kD k) aS v ++ wV (kD k) rV aV z)) rfl _ _ (cX4_set_ (kL k) C.tr (kD k) N rG rN (aT 0) aS rV aV v z p1 p2 r hX) (fun rv w h => by
      obtain ⟨a, -, e, -⟩ := h
      exact ⟨_, e⟩) (fun X w h => by
      obtain ⟨t, ht, e⟩ := PX_in ok_set hr X w h
      rcases List.mem_cons.mp ht with rfl | ht
      · exact .inl e
      · rw [List.mem_singleton.mp ht] at e
        exact .inr e)) (fun ht => vx_cwSW 4 ht gL_law_L_set rfl rfl rfl hsL_set ⟨(Nat.le_of_ble_eq_true rfl), (Nat.le_of_ble_eq_true rfl)⟩) rfl rfl (Nat.le_of_ble_eq_true rfl) dL_law_486 ⟨by show cs + 2 ≤ _; omega, by show sl + 12 ≤ _; omega⟩ (fun rv w1 hp => ?_)
  obtain ⟨j, g2, w2, rfl, rfl, hj, h0, hw⟩ := PH_out (pv := (fun b : VS × VV × Int32 => b.2.2)) (PW := (fun (b : VS × VV × Int32) (w : va_W) => ∃ a : Nat → Nat, w = (wG (kD k) rG (aS 0) rV rN (aT 0) ++ (wS (kD k) aS b.1 ++ wV (kD k) rV a b.2.1)))) (w0 := (wG (kD k) rG (aS 0) rV rN (aT 0) ++ (wS (kD k) aS v ++ wV (kD k) rV aV z))) ok_set hr hp
  obtain ⟨v2, z2, aV2, rfl, hs⟩ : ∃ v2 z2 aV2, w2 = (wG (kD k) rG (aS 0) rV rN (aT 0) ++ (wS (kD k) aS v2 ++ wV (kD k) rV aV2 z2)) ∧ SM (q + 400) v2 z2 tx n0 n1 m2 := by
    rcases hw with ⟨rfl, hs⟩ | ⟨a, ⟨aV2, rfl⟩, hs⟩
    · exact ⟨_, _, _, rfl, hs.mono (by omega)⟩
    · exact ⟨_, _, _, rfl, hs.mono (by omega)⟩
  refine g_Perm as4.symm ?_
  refine g_stack (st' := [.int j]) rfl ?_
  refine g_istore (pc := 489) (lv' := [(5, .int j), (4, .int i), (3, .ref rL), (2, .ref (aM 0)), (1, .ref rG), (0, .ref b)]) C dL_law_489 (by decide) rfl ?_
  refine g_aload_n (pc := 491) (x := aM 0) C dL_law_491 rfl ?_
  refine g_aload_n (pc := 492) (x := b) C dL_law_492 rfl ?_
  refine g_iload (pc := 493) (x := i) C dL_law_493 rfl ?_
  refine g_iconst (pc := 495) (v := 1) C dL_law_495 (by decide) ?_
  refine g_iadd (pc := 496) C dL_law_496 ?_
  refine g_xld (pc := 497) C X h1 e1 dL_law_497 ?_
  refine g_aload_n (pc := 498) (x := b) C dL_law_498 rfl ?_
  refine g_iload (pc := 499) (x := i) C dL_law_499 rfl ?_
  refine g_iconst (pc := 501) (v := 2) C dL_law_501 (by decide) ?_
  refine g_iadd (pc := 502) C dL_law_502 ?_
  refine g_xld (pc := 503) C X h2 e2 dL_law_503 ?_
  refine g_callV (pc := 504) (wc := wM (kD k) aM m) (wr := (wL (kD k) rL g2 ++ (wG (kD k) rG (aS 0) rV rN (aT 0) ++ (wS (kD k) aS v2 ++ (wV (kD k) rV aV2 z2 ++ (wT (kD k) aT tx ++ (wN (kD k) rN (fN a0 a1 n0 n1) ++ (wO (kD k) a0 n0 ++ wO (kD k) a1 n1)))))))) C (pm0 (pm0 (pm0 (pm0 (pm0 (pm0 (pm0 pmL))))))) (gr_V (y := yX5_set) (As := [.int p1, .int p2]) (rest := []) C (cX5_set_ (kL k) C.tr (kD k) N aM m p1 p2 (m2, y) hY) (fun ht => cwV 2 ht gL_law_X5_set rfl rfl rfl hdX5_set ⟨(Nat.le_of_ble_eq_true rfl), (Nat.le_of_ble_eq_true rfl)⟩) 0 rfl rfl _ (rg_map _ _) (rg_nd _) rfl rfl (Nat.le_of_ble_eq_true rfl) dL_law_504 ⟨by show cs + 2 + 0 ≤ _; omega, by show sl + 12 + 0 ≤ _; omega⟩) (fun rv w1 hp => ?_)
  obtain ⟨rfl, rfl⟩ := hp
  refine g_stack (st' := [.int y]) rfl ?_
  refine g_istore (pc := 507) (lv' := [(6, .int y), (5, .int j), (4, .int i), (3, .ref rL), (2, .ref (aM 0)), (1, .ref rG), (0, .ref b)]) C dL_law_507 (by decide) rfl ?_
  refine g_aload_n (pc := 509) (x := aM 0) C dL_law_509 rfl ?_
  refine g_callV (pc := 510) (wc := wM (kD k) aM m2) (wr := (wL (kD k) rL g2 ++ (wG (kD k) rG (aS 0) rV rN (aT 0) ++ (wS (kD k) aS v2 ++ (wV (kD k) rV aV2 z2 ++ (wT (kD k) aT tx ++ (wN (kD k) rN (fN a0 a1 n0 n1) ++ (wO (kD k) a0 n0 ++ wO (kD k) a1 n1)))))))) C (List.Perm.refl _) (gr_V (y := yX5_thrown) (As := []) (rest := []) C (cX5_thrown_ (kL k) C.tr (kD k) N aM m2 (mThr m2) rfl) (fun ht => cwV 0 ht gL_law_X5_thrown rfl rfl rfl hdX5_thrown ⟨(Nat.le_of_ble_eq_true rfl), (Nat.le_of_ble_eq_true rfl)⟩) 0 rfl rfl _ (rg_map _ _) (rg_nd _) rfl rfl (Nat.le_of_ble_eq_true rfl) dL_law_510 ⟨by show cs + 2 + 0 + 0 ≤ _; omega, by show sl + 12 + 0 + 0 ≤ _; omega⟩) (fun rv w1 hp => ?_)
  obtain ⟨rfl, rfl⟩ := hp
  refine g_stack (st' := [.int (mThr m2)]) rfl ?_
  refine g_iload (pc := 513) (x := j) C dL_law_513 rfl ?_
  refine g_icmpeqC (pc := 515) (tgt := 520) C hj dL_law_515 (by decide) ?_
  have END : gG k (wM (kD k) aM m2 ++ (wL (kD k) rL g2 ++ (wG (kD k) rG (aS 0) rV rN (aT 0) ++ (wS (kD k) aS v2 ++ (wV (kD k) rV aV2 z2 ++ (wT (kD k) aT tx ++ (wN (kD k) rN (fN a0 a1 n0 n1) ++ (wO (kD k) a0 n0 ++ wO (kD k) a1 n1)))))))) [(6, .int y), (5, .int j), (4, .int i), (3, .ref rL), (2, .ref (aM 0)), (1, .ref rG), (0, .ref b)] (cs + 2 + 0 + 0) (sl + 12 + 0 + 0) 537 [] := by
    refine g_goto (pc := 537) (tgt := 1811) C dL_law_537 (by decide) ?_
    refine g_lv [2, 3, 4, 5, 6] (lv' := lvW b rG rL aM i) rfl ?_
    refine g_widen (c2 := cs + 10) (s2 := sl + 163) (by omega) (by omega) ?_
    exact g_Perm ((pm0 (List.Perm.refl _)).trans (pmc ((pm0 (List.Perm.refl _)).trans (pmc ((pm0 (List.Perm.refl _)).trans (pmc ((pm0 (List.Perm.refl _)).trans (pmc ((pm0 (List.Perm.refl _)).trans (pmc ((pm0 (List.Perm.refl _)).trans (pmc ((pm0 (List.Perm.refl _)).trans (pmc pmL)))))))))))))) (K aV2 a0 a1 v2 z2 tx n0 n1 m2 g2 hs)
  refine g_iload (pc := 520) (x := j) C dL_law_520 rfl ?_
  refine g_ifneC (pc := 522) (tgt := 537) C dL_law_522 (by decide) (fun _ => END) (fun hj0 => ?_)
  refine g_aload_n (pc := 525) (x := rL) C dL_law_525 rfl ?_
  refine g_iconst (pc := 526) (v := 0) C dL_law_526 (by decide) ?_
  refine g_lald (pc := 527) (X := some ()) (r := ()) (n := 1) (f := g2) rfl C 10 rfl dL_law_527 (fun _ => ?_)
  refine g_iload (pc := 528) (x := y) C dL_law_528 rfl ?_
  refine g_i2l (pc := 530) C dL_law_530 ?_
  refine g_lcmp0 (pc := 531) C (h0 hj0) dL_law_531 ?_
  exact g_ifeqC (pc := 532) (tgt := 537) C dL_law_532 (by decide) (fun _ => END) (fun hz => absurd rfl hz)
theorem ok_wring : okC [(3, 1)] csL_wring := by decide +kernel
set_option maxRecDepth 100000 in
set_option maxHeartbeats 4000000 in
theorem op_wring {k : Kt} {nm : String} (C : gC k cL_law 9 RL wsL_law room_1 nm) {b L : Nat} {xs : Nat → Int32} (X : LX k b L xs) {N : Nat} (hN0 : 2097152 ≤ N) {rG rV rN rL : Nat} {aS aT aM aV a0 a1 : Nat → Nat} {v : VS} {z : VV} {tx : VT} {n0 n1 : Option VS} {m : VM} {g : Nat → Int64} {q : Nat} (hq : q ≤ 800000) (h : SM q v z tx n0 n1 m) {i : Int32} (h1 : vp_in (i + 1) L) (h2 : vp_in (i + 2) L) {cs sl : Nat} (hcs : cs + 10 ≤ room_1.cells) (hsl : sl + 163 ≤ room_1.slots) (K : KK k b rG rV rN rL aS aT aM (q + 400) i (cs + 10) (sl + 163)) : gG k (wAll (kD k) rG rV rN rL aS aT aM aV a0 a1 v z tx n0 n1 m g) (lvW b rG rL aM i) cs sl 540 [] := by
  obtain ⟨p1, e1⟩ : ∃ p1, xs (i + 1).toNatClampNeg = p1 := ⟨_, rfl⟩
  obtain ⟨p2, e2⟩ : ∃ p2, xs (i + 2).toNatClampNeg = p2 := ⟨_, rfl⟩
  unfold wAll lvW
  obtain ⟨r, m2, y, hX, hY, hr⟩ := (sim_wring hN0 (by omega) h p1 p2).out
  refine g_aload_n (pc := 540) (x := rG) C dL_law_540 rfl ?_
  refine g_aload_n (pc := 541) (x := b) C dL_law_541 rfl ?_
  refine g_iload (pc := 542) (x := i) C dL_law_542 rfl ?_
  refine g_iconst (pc := 544) (v := 1) C dL_law_544 (by decide) ?_
  refine g_iadd (pc := 545) C dL_law_545 ?_
  refine g_xld (pc := 546) C X h1 e1 dL_law_546 ?_
  refine g_aload_n (pc := 547) (x := b) C dL_law_547 rfl ?_
  refine g_iload (pc := 548) (x := i) C dL_law_548 rfl ?_
  refine g_iconst (pc := 550) (v := 2) C dL_law_550 (by decide) ?_
  refine g_iadd (pc := 551) C dL_law_551 ?_
  refine g_xld (pc := 552) C X h2 e2 dL_law_552 ?_
  refine g_aload_n (pc := 553) (x := rL) C dL_law_553 rfl ?_
  refine g_callM (pc := 554) (wr := (wT (kD k) aT tx ++ (wN (kD k) rN (fN a0 a1 n0 n1) ++ (wO (kD k) a0 n0 ++ (wO (kD k) a1 n1 ++ wM (kD k) aM m))))) (rest := []) C as4 (cL_wring_ (kL k) C.tr (kD k) rG rL g p1 p2 _ _ (wG (kD k) rG (aS 0) rV rN (aT 0) ++ (wS (kD k) aS v ++ wV (kD k) rV aV z)) rfl _ _ (cX4_wring_ (kL k) C.tr (kD k) N rG rN (aT 0) aS rV aV v z p1 p2 r hX) (fun rv w h => by
      obtain ⟨a, -, e, -⟩ := h
      exact ⟨_, e⟩) (fun X w h => by
      obtain ⟨t, ht, e⟩ := PX_in ok_wring hr X w h
      rw [List.mem_singleton.mp ht] at e
      exact e)) (fun ht => vx_cwSW 4 ht gL_law_L_wring rfl rfl rfl hsL_wring ⟨(Nat.le_of_ble_eq_true rfl), (Nat.le_of_ble_eq_true rfl)⟩) rfl rfl (Nat.le_of_ble_eq_true rfl) dL_law_554 ⟨by show cs + 2 ≤ _; omega, by show sl + 12 ≤ _; omega⟩ (fun rv w1 hp => ?_)
  obtain ⟨j, g2, w2, rfl, rfl, hj, h0, hw⟩ := PH_out (pv := (fun b : VS × VV × Int32 => b.2.2)) (PW := (fun (b : VS × VV × Int32) (w : va_W) => ∃ a : Nat → Nat, w = (wG (kD k) rG (aS 0) rV rN (aT 0) ++ (wS (kD k) aS b.1 ++ wV (kD k) rV a b.2.1)))) (w0 := (wG (kD k) rG (aS 0) rV rN (aT 0) ++ (wS (kD k) aS v ++ wV (kD k) rV aV z))) ok_wring hr hp
  obtain ⟨v2, z2, aV2, rfl, hs⟩ : ∃ v2 z2 aV2, w2 = (wG (kD k) rG (aS 0) rV rN (aT 0) ++ (wS (kD k) aS v2 ++ wV (kD k) rV aV2 z2)) ∧ SM (q + 400) v2 z2 tx n0 n1 m2 := by
    rcases hw with ⟨rfl, hs⟩ | ⟨a, ⟨aV2, rfl⟩, hs⟩
    · exact ⟨_, _, _, rfl, hs.mono (by omega)⟩
    · exact ⟨_, _, _, rfl, hs.mono (by omega)⟩
  refine g_Perm as4.symm ?_
  refine g_stack (st' := [.int j]) rfl ?_
  refine g_istore (pc := 557) (lv' := [(5, .int j), (4, .int i), (3, .ref rL), (2, .ref (aM 0)), (1, .ref rG), (0, .ref b)]) C dL_law_557 (by decide) rfl ?_
  refine g_aload_n (pc := 559) (x := aM 0) C dL_law_559 rfl ?_
  refine g_aload_n (pc := 560) (x := b) C dL_law_560 rfl ?_
  refine g_iload (pc := 561) (x := i) C dL_law_561 rfl ?_
  refine g_iconst (pc := 563) (v := 1) C dL_law_563 (by decide) ?_
  refine g_iadd (pc := 564) C dL_law_564 ?_
  refine g_xld (pc := 565) C X h1 e1 dL_law_565 ?_
  refine g_aload_n (pc := 566) (x := b) C dL_law_566 rfl ?_
  refine g_iload (pc := 567) (x := i) C dL_law_567 rfl ?_
  refine g_iconst (pc := 569) (v := 2) C dL_law_569 (by decide) ?_
  refine g_iadd (pc := 570) C dL_law_570 ?_
  refine g_xld (pc := 571) C X h2 e2 dL_law_571 ?_
  refine g_callV (pc := 572) (wc := wM (kD k) aM m) (wr := (wL (kD k) rL g2 ++ (wG (kD k) rG (aS 0) rV rN (aT 0) ++ (wS (kD k) aS v2 ++ (wV (kD k) rV aV2 z2 ++ (wT (kD k) aT tx ++ (wN (kD k) rN (fN a0 a1 n0 n1) ++ (wO (kD k) a0 n0 ++ wO (kD k) a1 n1)))))))) C (pm0 (pm0 (pm0 (pm0 (pm0 (pm0 (pm0 pmL))))))) (gr_V (y := yX5_wring) (As := [.int p1, .int p2]) (rest := []) C (cX5_wring_ (kL k) C.tr (kD k) N aM m p1 p2 (m2, y) hY) (fun ht => cwV 2 ht gL_law_X5_wring rfl rfl rfl hdX5_wring ⟨(Nat.le_of_ble_eq_true rfl), (Nat.le_of_ble_eq_true rfl)⟩) 0 rfl rfl _ (rg_map _ _) (rg_nd _) rfl rfl (Nat.le_of_ble_eq_true rfl) dL_law_572 ⟨by show cs + 2 + 0 ≤ _; omega, by show sl + 12 + 0 ≤ _; omega⟩) (fun rv w1 hp => ?_)
  obtain ⟨rfl, rfl⟩ := hp
  refine g_stack (st' := [.int y]) rfl ?_
  refine g_istore (pc := 575) (lv' := [(6, .int y), (5, .int j), (4, .int i), (3, .ref rL), (2, .ref (aM 0)), (1, .ref rG), (0, .ref b)]) C dL_law_575 (by decide) rfl ?_
  refine g_aload_n (pc := 577) (x := aM 0) C dL_law_577 rfl ?_
  refine g_callV (pc := 578) (wc := wM (kD k) aM m2) (wr := (wL (kD k) rL g2 ++ (wG (kD k) rG (aS 0) rV rN (aT 0) ++ (wS (kD k) aS v2 ++ (wV (kD k) rV aV2 z2 ++ (wT (kD k) aT tx ++ (wN (kD k) rN (fN a0 a1 n0 n1) ++ (wO (kD k) a0 n0 ++ wO (kD k) a1 n1)))))))) C (List.Perm.refl _) (gr_V (y := yX5_thrown) (As := []) (rest := []) C (cX5_thrown_ (kL k) C.tr (kD k) N aM m2 (mThr m2) rfl) (fun ht => cwV 0 ht gL_law_X5_thrown rfl rfl rfl hdX5_thrown ⟨(Nat.le_of_ble_eq_true rfl), (Nat.le_of_ble_eq_true rfl)⟩) 0 rfl rfl _ (rg_map _ _) (rg_nd _) rfl rfl (Nat.le_of_ble_eq_true rfl) dL_law_578 ⟨by show cs + 2 + 0 + 0 ≤ _; omega, by show sl + 12 + 0 + 0 ≤ _; omega⟩) (fun rv w1 hp => ?_)
  obtain ⟨rfl, rfl⟩ := hp
  refine g_stack (st' := [.int (mThr m2)]) rfl ?_
  refine g_iload (pc := 581) (x := j) C dL_law_581 rfl ?_
  refine g_icmpeqC (pc := 583) (tgt := 588) C hj dL_law_583 (by decide) ?_
  have END : gG k (wM (kD k) aM m2 ++ (wL (kD k) rL g2 ++ (wG (kD k) rG (aS 0) rV rN (aT 0) ++ (wS (kD k) aS v2 ++ (wV (kD k) rV aV2 z2 ++ (wT (kD k) aT tx ++ (wN (kD k) rN (fN a0 a1 n0 n1) ++ (wO (kD k) a0 n0 ++ wO (kD k) a1 n1)))))))) [(6, .int y), (5, .int j), (4, .int i), (3, .ref rL), (2, .ref (aM 0)), (1, .ref rG), (0, .ref b)] (cs + 2 + 0 + 0) (sl + 12 + 0 + 0) 605 [] := by
    refine g_goto (pc := 605) (tgt := 1811) C dL_law_605 (by decide) ?_
    refine g_lv [2, 3, 4, 5, 6] (lv' := lvW b rG rL aM i) rfl ?_
    refine g_widen (c2 := cs + 10) (s2 := sl + 163) (by omega) (by omega) ?_
    exact g_Perm ((pm0 (List.Perm.refl _)).trans (pmc ((pm0 (List.Perm.refl _)).trans (pmc ((pm0 (List.Perm.refl _)).trans (pmc ((pm0 (List.Perm.refl _)).trans (pmc ((pm0 (List.Perm.refl _)).trans (pmc ((pm0 (List.Perm.refl _)).trans (pmc ((pm0 (List.Perm.refl _)).trans (pmc pmL)))))))))))))) (K aV2 a0 a1 v2 z2 tx n0 n1 m2 g2 hs)
  refine g_iload (pc := 588) (x := j) C dL_law_588 rfl ?_
  refine g_ifneC (pc := 590) (tgt := 605) C dL_law_590 (by decide) (fun _ => END) (fun hj0 => ?_)
  refine g_aload_n (pc := 593) (x := rL) C dL_law_593 rfl ?_
  refine g_iconst (pc := 594) (v := 0) C dL_law_594 (by decide) ?_
  refine g_lald (pc := 595) (X := some ()) (r := ()) (n := 1) (f := g2) rfl C 10 rfl dL_law_595 (fun _ => ?_)
  refine g_iload (pc := 596) (x := y) C dL_law_596 rfl ?_
  refine g_i2l (pc := 598) C dL_law_598 ?_
  refine g_lcmp0 (pc := 599) C (h0 hj0) dL_law_599 ?_
  exact g_ifeqC (pc := 600) (tgt := 605) C dL_law_600 (by decide) (fun _ => END) (fun hz => absurd rfl hz)
theorem ok_takeOff : okC [(3, 1), (2, 2)] csL_takeOff := by decide +kernel
set_option maxRecDepth 100000 in
set_option maxHeartbeats 4000000 in
theorem op_takeOff {k : Kt} {nm : String} (C : gC k cL_law 9 RL wsL_law room_1 nm) {b L : Nat} {xs : Nat → Int32} (X : LX k b L xs) {N : Nat} (hN0 : 2097152 ≤ N) {rG rV rN rL : Nat} {aS aT aM aV a0 a1 : Nat → Nat} {v : VS} {z : VV} {tx : VT} {n0 n1 : Option VS} {m : VM} {g : Nat → Int64} {q : Nat} (hq : q ≤ 800000) (h : SM q v z tx n0 n1 m) {i : Int32} (h1 : vp_in (i + 1) L) (h2 : vp_in (i + 2) L) {cs sl : Nat} (hcs : cs + 10 ≤ room_1.cells) (hsl : sl + 163 ≤ room_1.slots) (K : KK k b rG rV rN rL aS aT aM (q + 400) i (cs + 10) (sl + 163)) : gG k (wAll (kD k) rG rV rN rL aS aT aM aV a0 a1 v z tx n0 n1 m g) (lvW b rG rL aM i) cs sl 608 [] := by
  obtain ⟨p1, e1⟩ : ∃ p1, xs (i + 1).toNatClampNeg = p1 := ⟨_, rfl⟩
  obtain ⟨p2, e2⟩ : ∃ p2, xs (i + 2).toNatClampNeg = p2 := ⟨_, rfl⟩
  unfold wAll lvW
  obtain ⟨r, m2, y, hX, hY, hr⟩ := (sim_takeOff hN0 (by omega) h p1).out
  refine g_aload_n (pc := 608) (x := rG) C dL_law_608 rfl ?_
  refine g_aload_n (pc := 609) (x := b) C dL_law_609 rfl ?_
  refine g_iload (pc := 610) (x := i) C dL_law_610 rfl ?_
  refine g_iconst (pc := 612) (v := 1) C dL_law_612 (by decide) ?_
  refine g_iadd (pc := 613) C dL_law_613 ?_
  refine g_xld (pc := 614) C X h1 e1 dL_law_614 ?_
  refine g_aload_n (pc := 615) (x := rL) C dL_law_615 rfl ?_
  refine g_callM (pc := 616) (wr := (wT (kD k) aT tx ++ (wN (kD k) rN (fN a0 a1 n0 n1) ++ (wO (kD k) a0 n0 ++ (wO (kD k) a1 n1 ++ wM (kD k) aM m))))) (rest := []) C as4 (cL_takeOff_ (kL k) C.tr (kD k) rG rL g p1 _ _ (wG (kD k) rG (aS 0) rV rN (aT 0) ++ (wS (kD k) aS v ++ wV (kD k) rV aV z)) rfl _ _ (cX4_takeOff_ (kL k) C.tr (kD k) N rG rN (aT 0) aS rV aV v z p1 r hX) (fun rv w h => by
      obtain ⟨a, -, e, -⟩ := h
      exact ⟨_, e⟩) (fun X w h => by
      obtain ⟨t, ht, e⟩ := PX_in ok_takeOff hr X w h
      rcases List.mem_cons.mp ht with rfl | ht
      · exact .inl e
      · rw [List.mem_singleton.mp ht] at e
        exact .inr e)) (fun ht => vx_cwSW 3 ht gL_law_L_takeOff rfl rfl rfl hsL_takeOff ⟨(Nat.le_of_ble_eq_true rfl), (Nat.le_of_ble_eq_true rfl)⟩) rfl rfl (Nat.le_of_ble_eq_true rfl) dL_law_616 ⟨by show cs + 2 ≤ _; omega, by show sl + 12 ≤ _; omega⟩ (fun rv w1 hp => ?_)
  obtain ⟨j, g2, w2, rfl, rfl, hj, h0, hw⟩ := PH_out (pv := (fun b : VS × VV × Int32 => b.2.2)) (PW := (fun (b : VS × VV × Int32) (w : va_W) => ∃ a : Nat → Nat, w = (wG (kD k) rG (aS 0) rV rN (aT 0) ++ (wS (kD k) aS b.1 ++ wV (kD k) rV a b.2.1)))) (w0 := (wG (kD k) rG (aS 0) rV rN (aT 0) ++ (wS (kD k) aS v ++ wV (kD k) rV aV z))) ok_takeOff hr hp
  obtain ⟨v2, z2, aV2, rfl, hs⟩ : ∃ v2 z2 aV2, w2 = (wG (kD k) rG (aS 0) rV rN (aT 0) ++ (wS (kD k) aS v2 ++ wV (kD k) rV aV2 z2)) ∧ SM (q + 400) v2 z2 tx n0 n1 m2 := by
    rcases hw with ⟨rfl, hs⟩ | ⟨a, ⟨aV2, rfl⟩, hs⟩
    · exact ⟨_, _, _, rfl, hs.mono (by omega)⟩
    · exact ⟨_, _, _, rfl, hs.mono (by omega)⟩
  refine g_Perm as4.symm ?_
  refine g_stack (st' := [.int j]) rfl ?_
  refine g_istore (pc := 619) (lv' := [(5, .int j), (4, .int i), (3, .ref rL), (2, .ref (aM 0)), (1, .ref rG), (0, .ref b)]) C dL_law_619 (by decide) rfl ?_
  refine g_aload_n (pc := 621) (x := aM 0) C dL_law_621 rfl ?_
  refine g_aload_n (pc := 622) (x := b) C dL_law_622 rfl ?_
  refine g_iload (pc := 623) (x := i) C dL_law_623 rfl ?_
  refine g_iconst (pc := 625) (v := 1) C dL_law_625 (by decide) ?_
  refine g_iadd (pc := 626) C dL_law_626 ?_
  refine g_xld (pc := 627) C X h1 e1 dL_law_627 ?_
  refine g_callV (pc := 628) (wc := wM (kD k) aM m) (wr := (wL (kD k) rL g2 ++ (wG (kD k) rG (aS 0) rV rN (aT 0) ++ (wS (kD k) aS v2 ++ (wV (kD k) rV aV2 z2 ++ (wT (kD k) aT tx ++ (wN (kD k) rN (fN a0 a1 n0 n1) ++ (wO (kD k) a0 n0 ++ wO (kD k) a1 n1)))))))) C (pm0 (pm0 (pm0 (pm0 (pm0 (pm0 (pm0 pmL))))))) (gr_V (y := yX5_takeOff) (As := [.int p1]) (rest := []) C (cX5_takeOff_ (kL k) C.tr (kD k) N aM m p1 (m2, y) hY) (fun ht => cwV 1 ht gL_law_X5_takeOff rfl rfl rfl hdX5_takeOff ⟨(Nat.le_of_ble_eq_true rfl), (Nat.le_of_ble_eq_true rfl)⟩) 0 rfl rfl _ (rg_map _ _) (rg_nd _) rfl rfl (Nat.le_of_ble_eq_true rfl) dL_law_628 ⟨by show cs + 2 + 0 ≤ _; omega, by show sl + 12 + 0 ≤ _; omega⟩) (fun rv w1 hp => ?_)
  obtain ⟨rfl, rfl⟩ := hp
  refine g_stack (st' := [.int y]) rfl ?_
  refine g_istore (pc := 631) (lv' := [(6, .int y), (5, .int j), (4, .int i), (3, .ref rL), (2, .ref (aM 0)), (1, .ref rG), (0, .ref b)]) C dL_law_631 (by decide) rfl ?_
  refine g_aload_n (pc := 633) (x := aM 0) C dL_law_633 rfl ?_
  refine g_callV (pc := 634) (wc := wM (kD k) aM m2) (wr := (wL (kD k) rL g2 ++ (wG (kD k) rG (aS 0) rV rN (aT 0) ++ (wS (kD k) aS v2 ++ (wV (kD k) rV aV2 z2 ++ (wT (kD k) aT tx ++ (wN (kD k) rN (fN a0 a1 n0 n1) ++ (wO (kD k) a0 n0 ++ wO (kD k) a1 n1)))))))) C (List.Perm.refl _) (gr_V (y := yX5_thrown) (As := []) (rest := []) C (cX5_thrown_ (kL k) C.tr (kD k) N aM m2 (mThr m2) rfl) (fun ht => cwV 0 ht gL_law_X5_thrown rfl rfl rfl hdX5_thrown ⟨(Nat.le_of_ble_eq_true rfl), (Nat.le_of_ble_eq_true rfl)⟩) 0 rfl rfl _ (rg_map _ _) (rg_nd _) rfl rfl (Nat.le_of_ble_eq_true rfl) dL_law_634 ⟨by show cs + 2 + 0 + 0 ≤ _; omega, by show sl + 12 + 0 + 0 ≤ _; omega⟩) (fun rv w1 hp => ?_)
  obtain ⟨rfl, rfl⟩ := hp
  refine g_stack (st' := [.int (mThr m2)]) rfl ?_
  refine g_iload (pc := 637) (x := j) C dL_law_637 rfl ?_
  refine g_icmpeqC (pc := 639) (tgt := 644) C hj dL_law_639 (by decide) ?_
  have END : gG k (wM (kD k) aM m2 ++ (wL (kD k) rL g2 ++ (wG (kD k) rG (aS 0) rV rN (aT 0) ++ (wS (kD k) aS v2 ++ (wV (kD k) rV aV2 z2 ++ (wT (kD k) aT tx ++ (wN (kD k) rN (fN a0 a1 n0 n1) ++ (wO (kD k) a0 n0 ++ wO (kD k) a1 n1)))))))) [(6, .int y), (5, .int j), (4, .int i), (3, .ref rL), (2, .ref (aM 0)), (1, .ref rG), (0, .ref b)] (cs + 2 + 0 + 0) (sl + 12 + 0 + 0) 661 [] := by
    refine g_goto (pc := 661) (tgt := 1811) C dL_law_661 (by decide) ?_
    refine g_lv [2, 3, 4, 5, 6] (lv' := lvW b rG rL aM i) rfl ?_
    refine g_widen (c2 := cs + 10) (s2 := sl + 163) (by omega) (by omega) ?_
    exact g_Perm ((pm0 (List.Perm.refl _)).trans (pmc ((pm0 (List.Perm.refl _)).trans (pmc ((pm0 (List.Perm.refl _)).trans (pmc ((pm0 (List.Perm.refl _)).trans (pmc ((pm0 (List.Perm.refl _)).trans (pmc ((pm0 (List.Perm.refl _)).trans (pmc ((pm0 (List.Perm.refl _)).trans (pmc pmL)))))))))))))) (K aV2 a0 a1 v2 z2 tx n0 n1 m2 g2 hs)
  refine g_iload (pc := 644) (x := j) C dL_law_644 rfl ?_
  refine g_ifneC (pc := 646) (tgt := 661) C dL_law_646 (by decide) (fun _ => END) (fun hj0 => ?_)
  refine g_aload_n (pc := 649) (x := rL) C dL_law_649 rfl ?_
  refine g_iconst (pc := 650) (v := 0) C dL_law_650 (by decide) ?_
  refine g_lald (pc := 651) (X := some ()) (r := ()) (n := 1) (f := g2) rfl C 10 rfl dL_law_651 (fun _ => ?_)
  refine g_iload (pc := 652) (x := y) C dL_law_652 rfl ?_
  refine g_i2l (pc := 654) C dL_law_654 ?_
  refine g_lcmp0 (pc := 655) C (h0 hj0) dL_law_655 ?_
  exact g_ifeqC (pc := 656) (tgt := 661) C dL_law_656 (by decide) (fun _ => END) (fun hz => absurd rfl hz)
theorem ok_make : okC [(3, 1), (1, 2), (2, 3)] csL_make := by decide +kernel
set_option maxRecDepth 100000 in
set_option maxHeartbeats 4000000 in
theorem op_make {k : Kt} {nm : String} (C : gC k cL_law 9 RL wsL_law room_1 nm) {b L : Nat} {xs : Nat → Int32} (X : LX k b L xs) {N : Nat} (hN0 : 2097152 ≤ N) {rG rV rN rL : Nat} {aS aT aM aV a0 a1 : Nat → Nat} {v : VS} {z : VV} {tx : VT} {n0 n1 : Option VS} {m : VM} {g : Nat → Int64} {q : Nat} (hq : q ≤ 800000) (h : SM q v z tx n0 n1 m) {i : Int32} (h1 : vp_in (i + 1) L) (h2 : vp_in (i + 2) L) {cs sl : Nat} (hcs : cs + 10 ≤ room_1.cells) (hsl : sl + 163 ≤ room_1.slots) (K : KK k b rG rV rN rL aS aT aM (q + 400) i (cs + 10) (sl + 163)) : gG k (wAll (kD k) rG rV rN rL aS aT aM aV a0 a1 v z tx n0 n1 m g) (lvW b rG rL aM i) cs sl 664 [] := by
  obtain ⟨p1, e1⟩ : ∃ p1, xs (i + 1).toNatClampNeg = p1 := ⟨_, rfl⟩
  obtain ⟨p2, e2⟩ : ∃ p2, xs (i + 2).toNatClampNeg = p2 := ⟨_, rfl⟩
  unfold wAll lvW
  obtain ⟨r, m2, y, hX, hY, hr⟩ := (sim_make hN0 hq h p1 p2).out
  refine g_aload_n (pc := 664) (x := rG) C dL_law_664 rfl ?_
  refine g_aload_n (pc := 665) (x := b) C dL_law_665 rfl ?_
  refine g_iload (pc := 666) (x := i) C dL_law_666 rfl ?_
  refine g_iconst (pc := 668) (v := 1) C dL_law_668 (by decide) ?_
  refine g_iadd (pc := 669) C dL_law_669 ?_
  refine g_xld (pc := 670) C X h1 e1 dL_law_670 ?_
  refine g_aload_n (pc := 671) (x := b) C dL_law_671 rfl ?_
  refine g_iload (pc := 672) (x := i) C dL_law_672 rfl ?_
  refine g_iconst (pc := 674) (v := 2) C dL_law_674 (by decide) ?_
  refine g_iadd (pc := 675) C dL_law_675 ?_
  refine g_xld (pc := 676) C X h2 e2 dL_law_676 ?_
  refine g_aload_n (pc := 677) (x := rL) C dL_law_677 rfl ?_
  refine g_callM (pc := 678) (wr := (wT (kD k) aT tx ++ (wN (kD k) rN (fN a0 a1 n0 n1) ++ (wO (kD k) a0 n0 ++ (wO (kD k) a1 n1 ++ wM (kD k) aM m))))) (rest := []) C as4 (cL_make_ (kL k) C.tr (kD k) rG rL g p1 p2 _ _ (wG (kD k) rG (aS 0) rV rN (aT 0) ++ (wS (kD k) aS v ++ wV (kD k) rV aV z)) rfl _ _ (cX4_make_ (kL k) C.tr (kD k) N rG rN (aT 0) aS rV aV v z p1 p2 r hX) (fun rv w h => by
      obtain ⟨a, -, e, -⟩ := h
      exact ⟨_, e⟩) (fun X w h => by
      obtain ⟨t, ht, e⟩ := PX_in ok_make hr X w h
      rcases List.mem_cons.mp ht with rfl | ht
      · exact .inl e
      · rcases List.mem_cons.mp ht with rfl | ht
        · exact .inr (.inl e)
        · rw [List.mem_singleton.mp ht] at e
          exact .inr (.inr e))) (fun ht => vx_cwSW 4 ht gL_law_L_make rfl rfl rfl hsL_make ⟨(Nat.le_of_ble_eq_true rfl), (Nat.le_of_ble_eq_true rfl)⟩) rfl rfl (Nat.le_of_ble_eq_true rfl) dL_law_678 ⟨by show cs + 3 ≤ _; omega, by show sl + 18 ≤ _; omega⟩ (fun rv w1 hp => ?_)
  obtain ⟨j, g2, w2, rfl, rfl, hj, h0, hw⟩ := PH_out (pv := (fun b : VS × VV × Int32 => b.2.2)) (PW := (fun (b : VS × VV × Int32) (w : va_W) => ∃ a : Nat → Nat, w = (wG (kD k) rG (aS 0) rV rN (aT 0) ++ (wS (kD k) aS b.1 ++ wV (kD k) rV a b.2.1)))) (w0 := (wG (kD k) rG (aS 0) rV rN (aT 0) ++ (wS (kD k) aS v ++ wV (kD k) rV aV z))) ok_make hr hp
  obtain ⟨v2, z2, aV2, rfl, hs⟩ : ∃ v2 z2 aV2, w2 = (wG (kD k) rG (aS 0) rV rN (aT 0) ++ (wS (kD k) aS v2 ++ wV (kD k) rV aV2 z2)) ∧ SM (q + 400) v2 z2 tx n0 n1 m2 := by
    rcases hw with ⟨rfl, hs⟩ | ⟨a, ⟨aV2, rfl⟩, hs⟩
    · exact ⟨_, _, _, rfl, hs.mono (by omega)⟩
    · exact ⟨_, _, _, rfl, hs.mono (by omega)⟩
  refine g_Perm as4.symm ?_
  refine g_stack (st' := [.int j]) rfl ?_
  refine g_istore (pc := 681) (lv' := [(5, .int j), (4, .int i), (3, .ref rL), (2, .ref (aM 0)), (1, .ref rG), (0, .ref b)]) C dL_law_681 (by decide) rfl ?_
  refine g_aload_n (pc := 683) (x := aM 0) C dL_law_683 rfl ?_
  refine g_aload_n (pc := 684) (x := b) C dL_law_684 rfl ?_
  refine g_iload (pc := 685) (x := i) C dL_law_685 rfl ?_
  refine g_iconst (pc := 687) (v := 1) C dL_law_687 (by decide) ?_
  refine g_iadd (pc := 688) C dL_law_688 ?_
  refine g_xld (pc := 689) C X h1 e1 dL_law_689 ?_
  refine g_aload_n (pc := 690) (x := b) C dL_law_690 rfl ?_
  refine g_iload (pc := 691) (x := i) C dL_law_691 rfl ?_
  refine g_iconst (pc := 693) (v := 2) C dL_law_693 (by decide) ?_
  refine g_iadd (pc := 694) C dL_law_694 ?_
  refine g_xld (pc := 695) C X h2 e2 dL_law_695 ?_
  refine g_callV (pc := 696) (wc := wM (kD k) aM m) (wr := (wL (kD k) rL g2 ++ (wG (kD k) rG (aS 0) rV rN (aT 0) ++ (wS (kD k) aS v2 ++ (wV (kD k) rV aV2 z2 ++ (wT (kD k) aT tx ++ (wN (kD k) rN (fN a0 a1 n0 n1) ++ (wO (kD k) a0 n0 ++ wO (kD k) a1 n1)))))))) C (pm0 (pm0 (pm0 (pm0 (pm0 (pm0 (pm0 pmL))))))) (gr_V (y := yX5_make) (As := [.int p1, .int p2]) (rest := []) C (cX5_make_ (kL k) C.tr (kD k) N aM m p1 p2 (m2, y) hY) (fun ht => cwV 2 ht gL_law_X5_make rfl rfl rfl hdX5_make ⟨(Nat.le_of_ble_eq_true rfl), (Nat.le_of_ble_eq_true rfl)⟩) 0 rfl rfl _ (rg_map _ _) (rg_nd _) rfl rfl (Nat.le_of_ble_eq_true rfl) dL_law_696 ⟨by show cs + 3 + 0 ≤ _; omega, by show sl + 18 + 0 ≤ _; omega⟩) (fun rv w1 hp => ?_)
  obtain ⟨rfl, rfl⟩ := hp
  refine g_stack (st' := [.int y]) rfl ?_
  refine g_istore (pc := 699) (lv' := [(6, .int y), (5, .int j), (4, .int i), (3, .ref rL), (2, .ref (aM 0)), (1, .ref rG), (0, .ref b)]) C dL_law_699 (by decide) rfl ?_
  refine g_aload_n (pc := 701) (x := aM 0) C dL_law_701 rfl ?_
  refine g_callV (pc := 702) (wc := wM (kD k) aM m2) (wr := (wL (kD k) rL g2 ++ (wG (kD k) rG (aS 0) rV rN (aT 0) ++ (wS (kD k) aS v2 ++ (wV (kD k) rV aV2 z2 ++ (wT (kD k) aT tx ++ (wN (kD k) rN (fN a0 a1 n0 n1) ++ (wO (kD k) a0 n0 ++ wO (kD k) a1 n1)))))))) C (List.Perm.refl _) (gr_V (y := yX5_thrown) (As := []) (rest := []) C (cX5_thrown_ (kL k) C.tr (kD k) N aM m2 (mThr m2) rfl) (fun ht => cwV 0 ht gL_law_X5_thrown rfl rfl rfl hdX5_thrown ⟨(Nat.le_of_ble_eq_true rfl), (Nat.le_of_ble_eq_true rfl)⟩) 0 rfl rfl _ (rg_map _ _) (rg_nd _) rfl rfl (Nat.le_of_ble_eq_true rfl) dL_law_702 ⟨by show cs + 3 + 0 + 0 ≤ _; omega, by show sl + 18 + 0 + 0 ≤ _; omega⟩) (fun rv w1 hp => ?_)
  obtain ⟨rfl, rfl⟩ := hp
  refine g_stack (st' := [.int (mThr m2)]) rfl ?_
  refine g_iload (pc := 705) (x := j) C dL_law_705 rfl ?_
  refine g_icmpeqC (pc := 707) (tgt := 712) C hj dL_law_707 (by decide) ?_
  have END : gG k (wM (kD k) aM m2 ++ (wL (kD k) rL g2 ++ (wG (kD k) rG (aS 0) rV rN (aT 0) ++ (wS (kD k) aS v2 ++ (wV (kD k) rV aV2 z2 ++ (wT (kD k) aT tx ++ (wN (kD k) rN (fN a0 a1 n0 n1) ++ (wO (kD k) a0 n0 ++ wO (kD k) a1 n1)))))))) [(6, .int y), (5, .int j), (4, .int i), (3, .ref rL), (2, .ref (aM 0)), (1, .ref rG), (0, .ref b)] (cs + 3 + 0 + 0) (sl + 18 + 0 + 0) 729 [] := by
    refine g_goto (pc := 729) (tgt := 1811) C dL_law_729 (by decide) ?_
    refine g_lv [2, 3, 4, 5, 6] (lv' := lvW b rG rL aM i) rfl ?_
    refine g_widen (c2 := cs + 10) (s2 := sl + 163) (by omega) (by omega) ?_
    exact g_Perm ((pm0 (List.Perm.refl _)).trans (pmc ((pm0 (List.Perm.refl _)).trans (pmc ((pm0 (List.Perm.refl _)).trans (pmc ((pm0 (List.Perm.refl _)).trans (pmc ((pm0 (List.Perm.refl _)).trans (pmc ((pm0 (List.Perm.refl _)).trans (pmc ((pm0 (List.Perm.refl _)).trans (pmc pmL)))))))))))))) (K aV2 a0 a1 v2 z2 tx n0 n1 m2 g2 hs)
  refine g_iload (pc := 712) (x := j) C dL_law_712 rfl ?_
  refine g_ifneC (pc := 714) (tgt := 729) C dL_law_714 (by decide) (fun _ => END) (fun hj0 => ?_)
  refine g_aload_n (pc := 717) (x := rL) C dL_law_717 rfl ?_
  refine g_iconst (pc := 718) (v := 0) C dL_law_718 (by decide) ?_
  refine g_lald (pc := 719) (X := some ()) (r := ()) (n := 1) (f := g2) rfl C 10 rfl dL_law_719 (fun _ => ?_)
  refine g_iload (pc := 720) (x := y) C dL_law_720 rfl ?_
  refine g_i2l (pc := 722) C dL_law_722 ?_
  refine g_lcmp0 (pc := 723) C (h0 hj0) dL_law_723 ?_
  exact g_ifeqC (pc := 724) (tgt := 729) C dL_law_724 (by decide) (fun _ => END) (fun hz => absurd rfl hz)
theorem ok_append : okC [(1, 1), (2, 2)] csL_append := by decide +kernel
set_option maxRecDepth 100000 in
set_option maxHeartbeats 4000000 in
theorem op_append {k : Kt} {nm : String} (C : gC k cL_law 9 RL wsL_law room_1 nm) {b L : Nat} {xs : Nat → Int32} (X : LX k b L xs) {N : Nat} (hN0 : 2097152 ≤ N) {rG rV rN rL : Nat} {aS aT aM aV a0 a1 : Nat → Nat} {v : VS} {z : VV} {tx : VT} {n0 n1 : Option VS} {m : VM} {g : Nat → Int64} {q : Nat} (hq : q ≤ 800000) (h : SM q v z tx n0 n1 m) {i : Int32} (h1 : vp_in (i + 1) L) (h2 : vp_in (i + 2) L) {cs sl : Nat} (hcs : cs + 10 ≤ room_1.cells) (hsl : sl + 163 ≤ room_1.slots) (K : KK k b rG rV rN rL aS aT aM (q + 400) i (cs + 10) (sl + 163)) : gG k (wAll (kD k) rG rV rN rL aS aT aM aV a0 a1 v z tx n0 n1 m g) (lvW b rG rL aM i) cs sl 732 [] := by
  obtain ⟨p1, e1⟩ : ∃ p1, xs (i + 1).toNatClampNeg = p1 := ⟨_, rfl⟩
  obtain ⟨p2, e2⟩ : ∃ p2, xs (i + 2).toNatClampNeg = p2 := ⟨_, rfl⟩
  unfold wAll lvW
  obtain ⟨r, m2, y, hX, hY, hr⟩ := (sim_append (N := N) h p1).out
  refine g_aload_n (pc := 732) (x := rG) C dL_law_732 rfl ?_
  refine g_aload_n (pc := 733) (x := b) C dL_law_733 rfl ?_
  refine g_iload (pc := 734) (x := i) C dL_law_734 rfl ?_
  refine g_iconst (pc := 736) (v := 1) C dL_law_736 (by decide) ?_
  refine g_iadd (pc := 737) C dL_law_737 ?_
  refine g_xld (pc := 738) C X h1 e1 dL_law_738 ?_
  refine g_aload_n (pc := 739) (x := rL) C dL_law_739 rfl ?_
  refine g_callM (pc := 740) (wr := (wS (kD k) aS v ++ (wV (kD k) rV aV z ++ (wN (kD k) rN (fN a0 a1 n0 n1) ++ (wO (kD k) a0 n0 ++ (wO (kD k) a1 n1 ++ wM (kD k) aM m)))))) (rest := []) C ((pmc (pmc (pm0 (pm0 (List.Perm.refl _))))).trans as3) (cL_append_ (kL k) C.tr (kD k) rG rL g p1 _ _ (wG (kD k) rG (aS 0) rV rN (aT 0) ++ wT (kD k) aT tx) rfl _ _ (cX4_append_ (kL k) C.tr (kD k) N rG (aS 0) rV rN aT tx p1 r hX) (fun rv w h => by
      obtain ⟨a, -, e, -⟩ := h
      exact ⟨_, e⟩) (fun X w h => by
      obtain ⟨t, ht, e⟩ := PX_in ok_append hr X w h
      rcases List.mem_cons.mp ht with rfl | ht
      · exact .inl e
      · rw [List.mem_singleton.mp ht] at e
        exact .inr e)) (fun ht => vx_cwSW 3 ht gL_law_L_append rfl rfl rfl hsL_append ⟨(Nat.le_of_ble_eq_true rfl), (Nat.le_of_ble_eq_true rfl)⟩) rfl rfl (Nat.le_of_ble_eq_true rfl) dL_law_740 ⟨by show cs + 2 ≤ _; omega, by show sl + 12 ≤ _; omega⟩ (fun rv w1 hp => ?_)
  obtain ⟨j, g2, w2, rfl, rfl, hj, h0, hw⟩ := PH_out (pv := (fun b : VT × Int32 => b.2)) (PW := (fun (b : VT × Int32) (w : va_W) => w = (wG (kD k) rG (aS 0) rV rN (aT 0) ++ wT (kD k) aT b.1))) (w0 := (wG (kD k) rG (aS 0) rV rN (aT 0) ++ wT (kD k) aT tx)) ok_append hr hp
  obtain ⟨t2, rfl, hs⟩ : ∃ t2, w2 = (wG (kD k) rG (aS 0) rV rN (aT 0) ++ wT (kD k) aT t2) ∧ SM (q + 400) v z t2 n0 n1 m2 := by
    rcases hw with ⟨rfl, hs⟩ | ⟨a, rfl, hs⟩
    · exact ⟨_, rfl, hs.mono (by omega)⟩
    · exact ⟨_, rfl, hs.mono (by omega)⟩
  refine g_Perm as3.symm ?_
  refine g_stack (st' := [.int j]) rfl ?_
  refine g_istore (pc := 743) (lv' := [(5, .int j), (4, .int i), (3, .ref rL), (2, .ref (aM 0)), (1, .ref rG), (0, .ref b)]) C dL_law_743 (by decide) rfl ?_
  refine g_aload_n (pc := 745) (x := aM 0) C dL_law_745 rfl ?_
  refine g_aload_n (pc := 746) (x := b) C dL_law_746 rfl ?_
  refine g_iload (pc := 747) (x := i) C dL_law_747 rfl ?_
  refine g_iconst (pc := 749) (v := 1) C dL_law_749 (by decide) ?_
  refine g_iadd (pc := 750) C dL_law_750 ?_
  refine g_xld (pc := 751) C X h1 e1 dL_law_751 ?_
  refine g_callV (pc := 752) (wc := wM (kD k) aM m) (wr := (wL (kD k) rL g2 ++ (wG (kD k) rG (aS 0) rV rN (aT 0) ++ (wT (kD k) aT t2 ++ (wS (kD k) aS v ++ (wV (kD k) rV aV z ++ (wN (kD k) rN (fN a0 a1 n0 n1) ++ (wO (kD k) a0 n0 ++ wO (kD k) a1 n1)))))))) C (pm0 (pm0 (pm0 (pm0 (pm0 (pm0 (pm0 pmL))))))) (gr_V (y := yX5_append) (As := [.int p1]) (rest := []) C (cX5_append_ (kL k) C.tr (kD k) N aM m p1 (m2, y) hY) (fun ht => cwV 1 ht gL_law_X5_append rfl rfl rfl hdX5_append ⟨(Nat.le_of_ble_eq_true rfl), (Nat.le_of_ble_eq_true rfl)⟩) 0 rfl rfl _ (rg_map _ _) (rg_nd _) rfl rfl (Nat.le_of_ble_eq_true rfl) dL_law_752 ⟨by show cs + 2 + 0 ≤ _; omega, by show sl + 12 + 0 ≤ _; omega⟩) (fun rv w1 hp => ?_)
  obtain ⟨rfl, rfl⟩ := hp
  refine g_stack (st' := [.int y]) rfl ?_
  refine g_istore (pc := 755) (lv' := [(6, .int y), (5, .int j), (4, .int i), (3, .ref rL), (2, .ref (aM 0)), (1, .ref rG), (0, .ref b)]) C dL_law_755 (by decide) rfl ?_
  refine g_aload_n (pc := 757) (x := aM 0) C dL_law_757 rfl ?_
  refine g_callV (pc := 758) (wc := wM (kD k) aM m2) (wr := (wL (kD k) rL g2 ++ (wG (kD k) rG (aS 0) rV rN (aT 0) ++ (wT (kD k) aT t2 ++ (wS (kD k) aS v ++ (wV (kD k) rV aV z ++ (wN (kD k) rN (fN a0 a1 n0 n1) ++ (wO (kD k) a0 n0 ++ wO (kD k) a1 n1)))))))) C (List.Perm.refl _) (gr_V (y := yX5_thrown) (As := []) (rest := []) C (cX5_thrown_ (kL k) C.tr (kD k) N aM m2 (mThr m2) rfl) (fun ht => cwV 0 ht gL_law_X5_thrown rfl rfl rfl hdX5_thrown ⟨(Nat.le_of_ble_eq_true rfl), (Nat.le_of_ble_eq_true rfl)⟩) 0 rfl rfl _ (rg_map _ _) (rg_nd _) rfl rfl (Nat.le_of_ble_eq_true rfl) dL_law_758 ⟨by show cs + 2 + 0 + 0 ≤ _; omega, by show sl + 12 + 0 + 0 ≤ _; omega⟩) (fun rv w1 hp => ?_)
  obtain ⟨rfl, rfl⟩ := hp
  refine g_stack (st' := [.int (mThr m2)]) rfl ?_
  refine g_iload (pc := 761) (x := j) C dL_law_761 rfl ?_
  refine g_icmpeqC (pc := 763) (tgt := 768) C hj dL_law_763 (by decide) ?_
  have END : gG k (wM (kD k) aM m2 ++ (wL (kD k) rL g2 ++ (wG (kD k) rG (aS 0) rV rN (aT 0) ++ (wT (kD k) aT t2 ++ (wS (kD k) aS v ++ (wV (kD k) rV aV z ++ (wN (kD k) rN (fN a0 a1 n0 n1) ++ (wO (kD k) a0 n0 ++ wO (kD k) a1 n1)))))))) [(6, .int y), (5, .int j), (4, .int i), (3, .ref rL), (2, .ref (aM 0)), (1, .ref rG), (0, .ref b)] (cs + 2 + 0 + 0) (sl + 12 + 0 + 0) 785 [] := by
    refine g_goto (pc := 785) (tgt := 1811) C dL_law_785 (by decide) ?_
    refine g_lv [2, 3, 4, 5, 6] (lv' := lvW b rG rL aM i) rfl ?_
    refine g_widen (c2 := cs + 10) (s2 := sl + 163) (by omega) (by omega) ?_
    exact g_Perm ((pm0 (List.Perm.refl _)).trans (pmc ((pm0 (List.Perm.refl _)).trans (pmc ((pm0 (pm0 (List.Perm.refl _))).trans (pmc ((pm0 (pm0 (List.Perm.refl _))).trans (pmc ((pm0 (List.Perm.refl _)).trans (pmc ((pm0 (List.Perm.refl _)).trans (pmc ((pm0 (List.Perm.refl _)).trans (pmc pmL)))))))))))))) (K aV a0 a1 v z t2 n0 n1 m2 g2 hs)
  refine g_iload (pc := 768) (x := j) C dL_law_768 rfl ?_
  refine g_ifneC (pc := 770) (tgt := 785) C dL_law_770 (by decide) (fun _ => END) (fun hj0 => ?_)
  refine g_aload_n (pc := 773) (x := rL) C dL_law_773 rfl ?_
  refine g_iconst (pc := 774) (v := 0) C dL_law_774 (by decide) ?_
  refine g_lald (pc := 775) (X := some ()) (r := ()) (n := 1) (f := g2) rfl C 10 rfl dL_law_775 (fun _ => ?_)
  refine g_iload (pc := 776) (x := y) C dL_law_776 rfl ?_
  refine g_i2l (pc := 778) C dL_law_778 ?_
  refine g_lcmp0 (pc := 779) C (h0 hj0) dL_law_779 ?_
  exact g_ifeqC (pc := 780) (tgt := 785) C dL_law_780 (by decide) (fun _ => END) (fun hz => absurd rfl hz)
theorem ok_undo : okC [(2, 1)] csL_undo := by decide +kernel
set_option maxRecDepth 100000 in
set_option maxHeartbeats 4000000 in
theorem op_undo {k : Kt} {nm : String} (C : gC k cL_law 9 RL wsL_law room_1 nm) {b L : Nat} {xs : Nat → Int32} (X : LX k b L xs) {N : Nat} (hN0 : 2097152 ≤ N) {rG rV rN rL : Nat} {aS aT aM aV a0 a1 : Nat → Nat} {v : VS} {z : VV} {tx : VT} {n0 n1 : Option VS} {m : VM} {g : Nat → Int64} {q : Nat} (hq : q ≤ 800000) (h : SM q v z tx n0 n1 m) {i : Int32} (h1 : vp_in (i + 1) L) (h2 : vp_in (i + 2) L) {cs sl : Nat} (hcs : cs + 10 ≤ room_1.cells) (hsl : sl + 163 ≤ room_1.slots) (K : KK k b rG rV rN rL aS aT aM (q + 400) i (cs + 10) (sl + 163)) : gG k (wAll (kD k) rG rV rN rL aS aT aM aV a0 a1 v z tx n0 n1 m g) (lvW b rG rL aM i) cs sl 858 [] := by
  obtain ⟨p1, e1⟩ : ∃ p1, xs (i + 1).toNatClampNeg = p1 := ⟨_, rfl⟩
  obtain ⟨p2, e2⟩ : ∃ p2, xs (i + 2).toNatClampNeg = p2 := ⟨_, rfl⟩
  unfold wAll lvW
  obtain ⟨r, m2, y, hX, hY, hr⟩ := (sim_undo hN0 h).out
  refine g_aload_n (pc := 858) (x := rG) C dL_law_858 rfl ?_
  refine g_aload_n (pc := 859) (x := rL) C dL_law_859 rfl ?_
  refine g_callM (pc := 860) (wr := (wT (kD k) aT tx ++ (wN (kD k) rN (fN a0 a1 n0 n1) ++ (wO (kD k) a0 n0 ++ (wO (kD k) a1 n1 ++ wM (kD k) aM m))))) (rest := []) C as4 (cL_undo_ (kL k) C.tr (kD k) rG rL g  _ _ (wG (kD k) rG (aS 0) rV rN (aT 0) ++ (wS (kD k) aS v ++ wV (kD k) rV aV z)) rfl _ _ (cX4_undo_ (kL k) C.tr (kD k) N rG rN (aT 0) aS rV aV v z r hX) (fun rv w h => by
      obtain ⟨a, -, e, -⟩ := h
      exact ⟨_, e⟩) (fun X w h => by
      obtain ⟨t, ht, e⟩ := PX_in ok_undo hr X w h
      rw [List.mem_singleton.mp ht] at e
      exact e)) (fun ht => vx_cwSW 2 ht gL_law_L_undo rfl rfl rfl hsL_undo ⟨(Nat.le_of_ble_eq_true rfl), (Nat.le_of_ble_eq_true rfl)⟩) rfl rfl (Nat.le_of_ble_eq_true rfl) dL_law_860 ⟨by show cs + 1 ≤ _; omega, by show sl + 6 ≤ _; omega⟩ (fun rv w1 hp => ?_)
  obtain ⟨j, g2, w2, rfl, rfl, hj, h0, hw⟩ := PH_out (pv := (fun b : VS × VV × Int32 => b.2.2)) (PW := (fun (b : VS × VV × Int32) (w : va_W) => w = (wG (kD k) rG (aS 0) rV rN (aT 0) ++ (wS (kD k) aS b.1 ++ wV (kD k) rV aV b.2.1)))) (w0 := (wG (kD k) rG (aS 0) rV rN (aT 0) ++ (wS (kD k) aS v ++ wV (kD k) rV aV z))) ok_undo hr hp
  obtain ⟨v2, z2, rfl, hs⟩ : ∃ v2 z2, w2 = (wG (kD k) rG (aS 0) rV rN (aT 0) ++ (wS (kD k) aS v2 ++ wV (kD k) rV aV z2)) ∧ SM (q + 400) v2 z2 tx n0 n1 m2 := by
    rcases hw with ⟨rfl, hs⟩ | ⟨a, rfl, hs⟩
    · exact ⟨_, _, rfl, hs.mono (by omega)⟩
    · exact ⟨_, _, rfl, hs.mono (by omega)⟩
  refine g_Perm as4.symm ?_
  refine g_stack (st' := [.int j]) rfl ?_
  refine g_istore (pc := 863) (lv' := [(5, .int j), (4, .int i), (3, .ref rL), (2, .ref (aM 0)), (1, .ref rG), (0, .ref b)]) C dL_law_863 (by decide) rfl ?_
  refine g_aload_n (pc := 865) (x := aM 0) C dL_law_865 rfl ?_
  refine g_callV (pc := 866) (wc := wM (kD k) aM m) (wr := (wL (kD k) rL g2 ++ (wG (kD k) rG (aS 0) rV rN (aT 0) ++ (wS (kD k) aS v2 ++ (wV (kD k) rV aV z2 ++ (wT (kD k) aT tx ++ (wN (kD k) rN (fN a0 a1 n0 n1) ++ (wO (kD k) a0 n0 ++ wO (kD k) a1 n1)))))))) C (pm0 (pm0 (pm0 (pm0 (pm0 (pm0 (pm0 pmL))))))) (gr_V (y := yX5_undo) (As := []) (rest := []) C (cX5_undo_ (kL k) C.tr (kD k) N aM m  (m2, y) hY) (fun ht => cwV 0 ht gL_law_X5_undo rfl rfl rfl hdX5_undo ⟨(Nat.le_of_ble_eq_true rfl), (Nat.le_of_ble_eq_true rfl)⟩) 0 rfl rfl _ (rg_map _ _) (rg_nd _) rfl rfl (Nat.le_of_ble_eq_true rfl) dL_law_866 ⟨by show cs + 1 + 0 ≤ _; omega, by show sl + 6 + 0 ≤ _; omega⟩) (fun rv w1 hp => ?_)
  obtain ⟨rfl, rfl⟩ := hp
  refine g_stack (st' := [.int y]) rfl ?_
  refine g_istore (pc := 869) (lv' := [(6, .int y), (5, .int j), (4, .int i), (3, .ref rL), (2, .ref (aM 0)), (1, .ref rG), (0, .ref b)]) C dL_law_869 (by decide) rfl ?_
  refine g_aload_n (pc := 871) (x := aM 0) C dL_law_871 rfl ?_
  refine g_callV (pc := 872) (wc := wM (kD k) aM m2) (wr := (wL (kD k) rL g2 ++ (wG (kD k) rG (aS 0) rV rN (aT 0) ++ (wS (kD k) aS v2 ++ (wV (kD k) rV aV z2 ++ (wT (kD k) aT tx ++ (wN (kD k) rN (fN a0 a1 n0 n1) ++ (wO (kD k) a0 n0 ++ wO (kD k) a1 n1)))))))) C (List.Perm.refl _) (gr_V (y := yX5_thrown) (As := []) (rest := []) C (cX5_thrown_ (kL k) C.tr (kD k) N aM m2 (mThr m2) rfl) (fun ht => cwV 0 ht gL_law_X5_thrown rfl rfl rfl hdX5_thrown ⟨(Nat.le_of_ble_eq_true rfl), (Nat.le_of_ble_eq_true rfl)⟩) 0 rfl rfl _ (rg_map _ _) (rg_nd _) rfl rfl (Nat.le_of_ble_eq_true rfl) dL_law_872 ⟨by show cs + 1 + 0 + 0 ≤ _; omega, by show sl + 6 + 0 + 0 ≤ _; omega⟩) (fun rv w1 hp => ?_)
  obtain ⟨rfl, rfl⟩ := hp
  refine g_stack (st' := [.int (mThr m2)]) rfl ?_
  refine g_iload (pc := 875) (x := j) C dL_law_875 rfl ?_
  refine g_icmpeqC (pc := 877) (tgt := 882) C hj dL_law_877 (by decide) ?_
  have END : gG k (wM (kD k) aM m2 ++ (wL (kD k) rL g2 ++ (wG (kD k) rG (aS 0) rV rN (aT 0) ++ (wS (kD k) aS v2 ++ (wV (kD k) rV aV z2 ++ (wT (kD k) aT tx ++ (wN (kD k) rN (fN a0 a1 n0 n1) ++ (wO (kD k) a0 n0 ++ wO (kD k) a1 n1)))))))) [(6, .int y), (5, .int j), (4, .int i), (3, .ref rL), (2, .ref (aM 0)), (1, .ref rG), (0, .ref b)] (cs + 1 + 0 + 0) (sl + 6 + 0 + 0) 899 [] := by
    refine g_goto (pc := 899) (tgt := 1811) C dL_law_899 (by decide) ?_
    refine g_lv [2, 3, 4, 5, 6] (lv' := lvW b rG rL aM i) rfl ?_
    refine g_widen (c2 := cs + 10) (s2 := sl + 163) (by omega) (by omega) ?_
    exact g_Perm ((pm0 (List.Perm.refl _)).trans (pmc ((pm0 (List.Perm.refl _)).trans (pmc ((pm0 (List.Perm.refl _)).trans (pmc ((pm0 (List.Perm.refl _)).trans (pmc ((pm0 (List.Perm.refl _)).trans (pmc ((pm0 (List.Perm.refl _)).trans (pmc ((pm0 (List.Perm.refl _)).trans (pmc pmL)))))))))))))) (K aV a0 a1 v2 z2 tx n0 n1 m2 g2 hs)
  refine g_iload (pc := 882) (x := j) C dL_law_882 rfl ?_
  refine g_ifneC (pc := 884) (tgt := 899) C dL_law_884 (by decide) (fun _ => END) (fun hj0 => ?_)
  refine g_aload_n (pc := 887) (x := rL) C dL_law_887 rfl ?_
  refine g_iconst (pc := 888) (v := 0) C dL_law_888 (by decide) ?_
  refine g_lald (pc := 889) (X := some ()) (r := ()) (n := 1) (f := g2) rfl C 10 rfl dL_law_889 (fun _ => ?_)
  refine g_iload (pc := 890) (x := y) C dL_law_890 rfl ?_
  refine g_i2l (pc := 892) C dL_law_892 ?_
  refine g_lcmp0 (pc := 893) C (h0 hj0) dL_law_893 ?_
  exact g_ifeqC (pc := 894) (tgt := 899) C dL_law_894 (by decide) (fun _ => END) (fun hz => absurd rfl hz)
theorem ok_blockOf : okC [(3, 1), (1, 2)] csL_blockOf := by decide +kernel
set_option maxRecDepth 100000 in
set_option maxHeartbeats 4000000 in
theorem op_blockOf {k : Kt} {nm : String} (C : gC k cL_law 9 RL wsL_law room_1 nm) {b L : Nat} {xs : Nat → Int32} (X : LX k b L xs) {N : Nat} (hN0 : 2097152 ≤ N) {rG rV rN rL : Nat} {aS aT aM aV a0 a1 : Nat → Nat} {v : VS} {z : VV} {tx : VT} {n0 n1 : Option VS} {m : VM} {g : Nat → Int64} {q : Nat} (hq : q ≤ 800000) (h : SM q v z tx n0 n1 m) {i : Int32} (h1 : vp_in (i + 1) L) (h2 : vp_in (i + 2) L) {cs sl : Nat} (hcs : cs + 10 ≤ room_1.cells) (hsl : sl + 163 ≤ room_1.slots) (K : KK k b rG rV rN rL aS aT aM (q + 400) i (cs + 10) (sl + 163)) : gG k (wAll (kD k) rG rV rN rL aS aT aM aV a0 a1 v z tx n0 n1 m g) (lvW b rG rL aM i) cs sl 1014 [] := by
  obtain ⟨p1, e1⟩ : ∃ p1, xs (i + 1).toNatClampNeg = p1 := ⟨_, rfl⟩
  obtain ⟨p2, e2⟩ : ∃ p2, xs (i + 2).toNatClampNeg = p2 := ⟨_, rfl⟩
  unfold wAll lvW
  obtain ⟨r, m2, y, hX, hY, hr⟩ := (sim_blockOf hN0 h p1 p2).out
  refine g_aload_n (pc := 1014) (x := rG) C dL_law_1014 rfl ?_
  refine g_aload_n (pc := 1015) (x := b) C dL_law_1015 rfl ?_
  refine g_iload (pc := 1016) (x := i) C dL_law_1016 rfl ?_
  refine g_iconst (pc := 1018) (v := 1) C dL_law_1018 (by decide) ?_
  refine g_iadd (pc := 1019) C dL_law_1019 ?_
  refine g_xld (pc := 1020) C X h1 e1 dL_law_1020 ?_
  refine g_aload_n (pc := 1021) (x := b) C dL_law_1021 rfl ?_
  refine g_iload (pc := 1022) (x := i) C dL_law_1022 rfl ?_
  refine g_iconst (pc := 1024) (v := 2) C dL_law_1024 (by decide) ?_
  refine g_iadd (pc := 1025) C dL_law_1025 ?_
  refine g_xld (pc := 1026) C X h2 e2 dL_law_1026 ?_
  refine g_aload_n (pc := 1027) (x := rL) C dL_law_1027 rfl ?_
  refine g_callM (pc := 1028) (wr := (wV (kD k) rV aV z ++ (wT (kD k) aT tx ++ (wN (kD k) rN (fN a0 a1 n0 n1) ++ (wO (kD k) a0 n0 ++ (wO (kD k) a1 n1 ++ wM (kD k) aM m)))))) (rest := []) C as3 (cL_blockOf_ (kL k) C.tr (kD k) rG rL g p1 p2 _ _ (wG (kD k) rG (aS 0) rV rN (aT 0) ++ wS (kD k) aS v) rfl _ _ (cX4_blockOf_ (kL k) C.tr (kD k) N rG rV rN (aT 0) aS v p1 p2 r hX) (fun rv w h => by
      obtain ⟨a, -, e, -⟩ := h
      exact ⟨_, e⟩) (fun X w h => by
      obtain ⟨t, ht, e⟩ := PX_in ok_blockOf hr X w h
      rcases List.mem_cons.mp ht with rfl | ht
      · exact .inl e
      · rw [List.mem_singleton.mp ht] at e
        exact .inr e)) (fun ht => vx_cwSW 4 ht gL_law_L_blockOf rfl rfl rfl hsL_blockOf ⟨(Nat.le_of_ble_eq_true rfl), (Nat.le_of_ble_eq_true rfl)⟩) rfl rfl (Nat.le_of_ble_eq_true rfl) dL_law_1028 ⟨by show cs + 2 ≤ _; omega, by show sl + 12 ≤ _; omega⟩ (fun rv w1 hp => ?_)
  obtain ⟨j, g2, w2, rfl, rfl, hj, h0, hw⟩ := PH_out (pv := (fun b : Int32 => b)) (PW := (fun (_ : Int32) (w : va_W) => w = (wG (kD k) rG (aS 0) rV rN (aT 0) ++ wS (kD k) aS v))) (w0 := (wG (kD k) rG (aS 0) rV rN (aT 0) ++ wS (kD k) aS v)) ok_blockOf hr hp
  obtain ⟨rfl, hs⟩ : w2 = (wG (kD k) rG (aS 0) rV rN (aT 0) ++ wS (kD k) aS v) ∧ SM (q + 400) v z tx n0 n1 m2 := by
    rcases hw with ⟨rfl, hs⟩ | ⟨a, rfl, hs⟩
    · exact ⟨rfl, hs.mono (by omega)⟩
    · exact ⟨rfl, hs.mono (by omega)⟩
  refine g_Perm as3.symm ?_
  refine g_stack (st' := [.int j]) rfl ?_
  refine g_istore (pc := 1031) (lv' := [(5, .int j), (4, .int i), (3, .ref rL), (2, .ref (aM 0)), (1, .ref rG), (0, .ref b)]) C dL_law_1031 (by decide) rfl ?_
  refine g_aload_n (pc := 1033) (x := aM 0) C dL_law_1033 rfl ?_
  refine g_aload_n (pc := 1034) (x := b) C dL_law_1034 rfl ?_
  refine g_iload (pc := 1035) (x := i) C dL_law_1035 rfl ?_
  refine g_iconst (pc := 1037) (v := 1) C dL_law_1037 (by decide) ?_
  refine g_iadd (pc := 1038) C dL_law_1038 ?_
  refine g_xld (pc := 1039) C X h1 e1 dL_law_1039 ?_
  refine g_aload_n (pc := 1040) (x := b) C dL_law_1040 rfl ?_
  refine g_iload (pc := 1041) (x := i) C dL_law_1041 rfl ?_
  refine g_iconst (pc := 1043) (v := 2) C dL_law_1043 (by decide) ?_
  refine g_iadd (pc := 1044) C dL_law_1044 ?_
  refine g_xld (pc := 1045) C X h2 e2 dL_law_1045 ?_
  refine g_callV (pc := 1046) (wc := wM (kD k) aM m) (wr := (wL (kD k) rL g2 ++ (wG (kD k) rG (aS 0) rV rN (aT 0) ++ (wS (kD k) aS v ++ (wV (kD k) rV aV z ++ (wT (kD k) aT tx ++ (wN (kD k) rN (fN a0 a1 n0 n1) ++ (wO (kD k) a0 n0 ++ wO (kD k) a1 n1)))))))) C (pm0 (pm0 (pm0 (pm0 (pm0 (pm0 (pm0 pmL))))))) (gr_V (y := yX5_blockOf) (As := [.int p1, .int p2]) (rest := []) C (cX5_blockOf_ (kL k) C.tr (kD k) N aM m p1 p2 (m2, y) hY) (fun ht => cwV 2 ht gL_law_X5_blockOf rfl rfl rfl hdX5_blockOf ⟨(Nat.le_of_ble_eq_true rfl), (Nat.le_of_ble_eq_true rfl)⟩) 0 rfl rfl _ (rg_map _ _) (rg_nd _) rfl rfl (Nat.le_of_ble_eq_true rfl) dL_law_1046 ⟨by show cs + 2 + 0 ≤ _; omega, by show sl + 12 + 0 ≤ _; omega⟩) (fun rv w1 hp => ?_)
  obtain ⟨rfl, rfl⟩ := hp
  refine g_stack (st' := [.int y]) rfl ?_
  refine g_istore (pc := 1049) (lv' := [(6, .int y), (5, .int j), (4, .int i), (3, .ref rL), (2, .ref (aM 0)), (1, .ref rG), (0, .ref b)]) C dL_law_1049 (by decide) rfl ?_
  refine g_aload_n (pc := 1051) (x := aM 0) C dL_law_1051 rfl ?_
  refine g_callV (pc := 1052) (wc := wM (kD k) aM m2) (wr := (wL (kD k) rL g2 ++ (wG (kD k) rG (aS 0) rV rN (aT 0) ++ (wS (kD k) aS v ++ (wV (kD k) rV aV z ++ (wT (kD k) aT tx ++ (wN (kD k) rN (fN a0 a1 n0 n1) ++ (wO (kD k) a0 n0 ++ wO (kD k) a1 n1)))))))) C (List.Perm.refl _) (gr_V (y := yX5_thrown) (As := []) (rest := []) C (cX5_thrown_ (kL k) C.tr (kD k) N aM m2 (mThr m2) rfl) (fun ht => cwV 0 ht gL_law_X5_thrown rfl rfl rfl hdX5_thrown ⟨(Nat.le_of_ble_eq_true rfl), (Nat.le_of_ble_eq_true rfl)⟩) 0 rfl rfl _ (rg_map _ _) (rg_nd _) rfl rfl (Nat.le_of_ble_eq_true rfl) dL_law_1052 ⟨by show cs + 2 + 0 + 0 ≤ _; omega, by show sl + 12 + 0 + 0 ≤ _; omega⟩) (fun rv w1 hp => ?_)
  obtain ⟨rfl, rfl⟩ := hp
  refine g_stack (st' := [.int (mThr m2)]) rfl ?_
  refine g_iload (pc := 1055) (x := j) C dL_law_1055 rfl ?_
  refine g_icmpeqC (pc := 1057) (tgt := 1062) C hj dL_law_1057 (by decide) ?_
  have END : gG k (wM (kD k) aM m2 ++ (wL (kD k) rL g2 ++ (wG (kD k) rG (aS 0) rV rN (aT 0) ++ (wS (kD k) aS v ++ (wV (kD k) rV aV z ++ (wT (kD k) aT tx ++ (wN (kD k) rN (fN a0 a1 n0 n1) ++ (wO (kD k) a0 n0 ++ wO (kD k) a1 n1)))))))) [(6, .int y), (5, .int j), (4, .int i), (3, .ref rL), (2, .ref (aM 0)), (1, .ref rG), (0, .ref b)] (cs + 2 + 0 + 0) (sl + 12 + 0 + 0) 1079 [] := by
    refine g_goto (pc := 1079) (tgt := 1811) C dL_law_1079 (by decide) ?_
    refine g_lv [2, 3, 4, 5, 6] (lv' := lvW b rG rL aM i) rfl ?_
    refine g_widen (c2 := cs + 10) (s2 := sl + 163) (by omega) (by omega) ?_
    exact g_Perm ((pm0 (List.Perm.refl _)).trans (pmc ((pm0 (List.Perm.refl _)).trans (pmc ((pm0 (List.Perm.refl _)).trans (pmc ((pm0 (List.Perm.refl _)).trans (pmc ((pm0 (List.Perm.refl _)).trans (pmc ((pm0 (List.Perm.refl _)).trans (pmc ((pm0 (List.Perm.refl _)).trans (pmc pmL)))))))))))))) (K aV a0 a1 v z tx n0 n1 m2 g2 hs)
  refine g_iload (pc := 1062) (x := j) C dL_law_1062 rfl ?_
  refine g_ifneC (pc := 1064) (tgt := 1079) C dL_law_1064 (by decide) (fun _ => END) (fun hj0 => ?_)
  refine g_aload_n (pc := 1067) (x := rL) C dL_law_1067 rfl ?_
  refine g_iconst (pc := 1068) (v := 0) C dL_law_1068 (by decide) ?_
  refine g_lald (pc := 1069) (X := some ()) (r := ()) (n := 1) (f := g2) rfl C 10 rfl dL_law_1069 (fun _ => ?_)
  refine g_iload (pc := 1070) (x := y) C dL_law_1070 rfl ?_
  refine g_i2l (pc := 1072) C dL_law_1072 ?_
  refine g_lcmp0 (pc := 1073) C (h0 hj0) dL_law_1073 ?_
  exact g_ifeqC (pc := 1074) (tgt := 1079) C dL_law_1074 (by decide) (fun _ => END) (fun hz => absurd rfl hz)
theorem ok_stackOf : okC [(3, 1), (1, 2)] csL_stackOf := by decide +kernel
set_option maxRecDepth 100000 in
set_option maxHeartbeats 4000000 in
theorem op_stackOf {k : Kt} {nm : String} (C : gC k cL_law 9 RL wsL_law room_1 nm) {b L : Nat} {xs : Nat → Int32} (X : LX k b L xs) {N : Nat} (hN0 : 2097152 ≤ N) {rG rV rN rL : Nat} {aS aT aM aV a0 a1 : Nat → Nat} {v : VS} {z : VV} {tx : VT} {n0 n1 : Option VS} {m : VM} {g : Nat → Int64} {q : Nat} (hq : q ≤ 800000) (h : SM q v z tx n0 n1 m) {i : Int32} (h1 : vp_in (i + 1) L) (h2 : vp_in (i + 2) L) {cs sl : Nat} (hcs : cs + 10 ≤ room_1.cells) (hsl : sl + 163 ≤ room_1.slots) (K : KK k b rG rV rN rL aS aT aM (q + 400) i (cs + 10) (sl + 163)) : gG k (wAll (kD k) rG rV rN rL aS aT aM aV a0 a1 v z tx n0 n1 m g) (lvW b rG rL aM i) cs sl 1082 [] := by
  obtain ⟨p1, e1⟩ : ∃ p1, xs (i + 1).toNatClampNeg = p1 := ⟨_, rfl⟩
  obtain ⟨p2, e2⟩ : ∃ p2, xs (i + 2).toNatClampNeg = p2 := ⟨_, rfl⟩
  unfold wAll lvW
  obtain ⟨r, m2, y, hX, hY, hr⟩ := (sim_stackOf hN0 h p1 p2).out
  refine g_aload_n (pc := 1082) (x := rG) C dL_law_1082 rfl ?_
  refine g_aload_n (pc := 1083) (x := b) C dL_law_1083 rfl ?_
  refine g_iload (pc := 1084) (x := i) C dL_law_1084 rfl ?_
  refine g_iconst (pc := 1086) (v := 1) C dL_law_1086 (by decide) ?_
  refine g_iadd (pc := 1087) C dL_law_1087 ?_
  refine g_xld (pc := 1088) C X h1 e1 dL_law_1088 ?_
  refine g_aload_n (pc := 1089) (x := b) C dL_law_1089 rfl ?_
  refine g_iload (pc := 1090) (x := i) C dL_law_1090 rfl ?_
  refine g_iconst (pc := 1092) (v := 2) C dL_law_1092 (by decide) ?_
  refine g_iadd (pc := 1093) C dL_law_1093 ?_
  refine g_xld (pc := 1094) C X h2 e2 dL_law_1094 ?_
  refine g_aload_n (pc := 1095) (x := rL) C dL_law_1095 rfl ?_
  refine g_callM (pc := 1096) (wr := (wV (kD k) rV aV z ++ (wT (kD k) aT tx ++ (wN (kD k) rN (fN a0 a1 n0 n1) ++ (wO (kD k) a0 n0 ++ (wO (kD k) a1 n1 ++ wM (kD k) aM m)))))) (rest := []) C as3 (cL_stackOf_ (kL k) C.tr (kD k) rG rL g p1 p2 _ _ (wG (kD k) rG (aS 0) rV rN (aT 0) ++ wS (kD k) aS v) rfl _ _ (cX4_stackOf_ (kL k) C.tr (kD k) N rG rV rN (aT 0) aS v p1 p2 r hX) (fun rv w h => by
      obtain ⟨a, -, e, -⟩ := h
      exact ⟨_, e⟩) (fun X w h => by
      obtain ⟨t, ht, e⟩ := PX_in ok_stackOf hr X w h
      rcases List.mem_cons.mp ht with rfl | ht
      · exact .inl e
      · rw [List.mem_singleton.mp ht] at e
        exact .inr e)) (fun ht => vx_cwSW 4 ht gL_law_L_stackOf rfl rfl rfl hsL_stackOf ⟨(Nat.le_of_ble_eq_true rfl), (Nat.le_of_ble_eq_true rfl)⟩) rfl rfl (Nat.le_of_ble_eq_true rfl) dL_law_1096 ⟨by show cs + 2 ≤ _; omega, by show sl + 12 ≤ _; omega⟩ (fun rv w1 hp => ?_)
  obtain ⟨j, g2, w2, rfl, rfl, hj, h0, hw⟩ := PH_out (pv := (fun b : Int32 => b)) (PW := (fun (_ : Int32) (w : va_W) => w = (wG (kD k) rG (aS 0) rV rN (aT 0) ++ wS (kD k) aS v))) (w0 := (wG (kD k) rG (aS 0) rV rN (aT 0) ++ wS (kD k) aS v)) ok_stackOf hr hp
  obtain ⟨rfl, hs⟩ : w2 = (wG (kD k) rG (aS 0) rV rN (aT 0) ++ wS (kD k) aS v) ∧ SM (q + 400) v z tx n0 n1 m2 := by
    rcases hw with ⟨rfl, hs⟩ | ⟨a, rfl, hs⟩
    · exact ⟨rfl, hs.mono (by omega)⟩
    · exact ⟨rfl, hs.mono (by omega)⟩
  refine g_Perm as3.symm ?_
  refine g_stack (st' := [.int j]) rfl ?_
  refine g_istore (pc := 1099) (lv' := [(5, .int j), (4, .int i), (3, .ref rL), (2, .ref (aM 0)), (1, .ref rG), (0, .ref b)]) C dL_law_1099 (by decide) rfl ?_
  refine g_aload_n (pc := 1101) (x := aM 0) C dL_law_1101 rfl ?_
  refine g_aload_n (pc := 1102) (x := b) C dL_law_1102 rfl ?_
  refine g_iload (pc := 1103) (x := i) C dL_law_1103 rfl ?_
  refine g_iconst (pc := 1105) (v := 1) C dL_law_1105 (by decide) ?_
  refine g_iadd (pc := 1106) C dL_law_1106 ?_
  refine g_xld (pc := 1107) C X h1 e1 dL_law_1107 ?_
  refine g_aload_n (pc := 1108) (x := b) C dL_law_1108 rfl ?_
  refine g_iload (pc := 1109) (x := i) C dL_law_1109 rfl ?_
  refine g_iconst (pc := 1111) (v := 2) C dL_law_1111 (by decide) ?_
  refine g_iadd (pc := 1112) C dL_law_1112 ?_
  refine g_xld (pc := 1113) C X h2 e2 dL_law_1113 ?_
  refine g_callV (pc := 1114) (wc := wM (kD k) aM m) (wr := (wL (kD k) rL g2 ++ (wG (kD k) rG (aS 0) rV rN (aT 0) ++ (wS (kD k) aS v ++ (wV (kD k) rV aV z ++ (wT (kD k) aT tx ++ (wN (kD k) rN (fN a0 a1 n0 n1) ++ (wO (kD k) a0 n0 ++ wO (kD k) a1 n1)))))))) C (pm0 (pm0 (pm0 (pm0 (pm0 (pm0 (pm0 pmL))))))) (gr_V (y := yX5_stackOf) (As := [.int p1, .int p2]) (rest := []) C (cX5_stackOf_ (kL k) C.tr (kD k) N aM m p1 p2 (m2, y) hY) (fun ht => cwV 2 ht gL_law_X5_stackOf rfl rfl rfl hdX5_stackOf ⟨(Nat.le_of_ble_eq_true rfl), (Nat.le_of_ble_eq_true rfl)⟩) 0 rfl rfl _ (rg_map _ _) (rg_nd _) rfl rfl (Nat.le_of_ble_eq_true rfl) dL_law_1114 ⟨by show cs + 2 + 0 ≤ _; omega, by show sl + 12 + 0 ≤ _; omega⟩) (fun rv w1 hp => ?_)
  obtain ⟨rfl, rfl⟩ := hp
  refine g_stack (st' := [.int y]) rfl ?_
  refine g_istore (pc := 1117) (lv' := [(6, .int y), (5, .int j), (4, .int i), (3, .ref rL), (2, .ref (aM 0)), (1, .ref rG), (0, .ref b)]) C dL_law_1117 (by decide) rfl ?_
  refine g_aload_n (pc := 1119) (x := aM 0) C dL_law_1119 rfl ?_
  refine g_callV (pc := 1120) (wc := wM (kD k) aM m2) (wr := (wL (kD k) rL g2 ++ (wG (kD k) rG (aS 0) rV rN (aT 0) ++ (wS (kD k) aS v ++ (wV (kD k) rV aV z ++ (wT (kD k) aT tx ++ (wN (kD k) rN (fN a0 a1 n0 n1) ++ (wO (kD k) a0 n0 ++ wO (kD k) a1 n1)))))))) C (List.Perm.refl _) (gr_V (y := yX5_thrown) (As := []) (rest := []) C (cX5_thrown_ (kL k) C.tr (kD k) N aM m2 (mThr m2) rfl) (fun ht => cwV 0 ht gL_law_X5_thrown rfl rfl rfl hdX5_thrown ⟨(Nat.le_of_ble_eq_true rfl), (Nat.le_of_ble_eq_true rfl)⟩) 0 rfl rfl _ (rg_map _ _) (rg_nd _) rfl rfl (Nat.le_of_ble_eq_true rfl) dL_law_1120 ⟨by show cs + 2 + 0 + 0 ≤ _; omega, by show sl + 12 + 0 + 0 ≤ _; omega⟩) (fun rv w1 hp => ?_)
  obtain ⟨rfl, rfl⟩ := hp
  refine g_stack (st' := [.int (mThr m2)]) rfl ?_
  refine g_iload (pc := 1123) (x := j) C dL_law_1123 rfl ?_
  refine g_icmpeqC (pc := 1125) (tgt := 1130) C hj dL_law_1125 (by decide) ?_
  have END : gG k (wM (kD k) aM m2 ++ (wL (kD k) rL g2 ++ (wG (kD k) rG (aS 0) rV rN (aT 0) ++ (wS (kD k) aS v ++ (wV (kD k) rV aV z ++ (wT (kD k) aT tx ++ (wN (kD k) rN (fN a0 a1 n0 n1) ++ (wO (kD k) a0 n0 ++ wO (kD k) a1 n1)))))))) [(6, .int y), (5, .int j), (4, .int i), (3, .ref rL), (2, .ref (aM 0)), (1, .ref rG), (0, .ref b)] (cs + 2 + 0 + 0) (sl + 12 + 0 + 0) 1147 [] := by
    refine g_goto (pc := 1147) (tgt := 1811) C dL_law_1147 (by decide) ?_
    refine g_lv [2, 3, 4, 5, 6] (lv' := lvW b rG rL aM i) rfl ?_
    refine g_widen (c2 := cs + 10) (s2 := sl + 163) (by omega) (by omega) ?_
    exact g_Perm ((pm0 (List.Perm.refl _)).trans (pmc ((pm0 (List.Perm.refl _)).trans (pmc ((pm0 (List.Perm.refl _)).trans (pmc ((pm0 (List.Perm.refl _)).trans (pmc ((pm0 (List.Perm.refl _)).trans (pmc ((pm0 (List.Perm.refl _)).trans (pmc ((pm0 (List.Perm.refl _)).trans (pmc pmL)))))))))))))) (K aV a0 a1 v z tx n0 n1 m2 g2 hs)
  refine g_iload (pc := 1130) (x := j) C dL_law_1130 rfl ?_
  refine g_ifneC (pc := 1132) (tgt := 1147) C dL_law_1132 (by decide) (fun _ => END) (fun hj0 => ?_)
  refine g_aload_n (pc := 1135) (x := rL) C dL_law_1135 rfl ?_
  refine g_iconst (pc := 1136) (v := 0) C dL_law_1136 (by decide) ?_
  refine g_lald (pc := 1137) (X := some ()) (r := ()) (n := 1) (f := g2) rfl C 10 rfl dL_law_1137 (fun _ => ?_)
  refine g_iload (pc := 1138) (x := y) C dL_law_1138 rfl ?_
  refine g_i2l (pc := 1140) C dL_law_1140 ?_
  refine g_lcmp0 (pc := 1141) C (h0 hj0) dL_law_1141 ?_
  exact g_ifeqC (pc := 1142) (tgt := 1147) C dL_law_1142 (by decide) (fun _ => END) (fun hz => absurd rfl hz)
theorem ok_ranked : okC [(1, 1)] csL_ranked := by decide +kernel
set_option maxRecDepth 100000 in
set_option maxHeartbeats 4000000 in
theorem op_ranked {k : Kt} {nm : String} (C : gC k cL_law 9 RL wsL_law room_1 nm) {b L : Nat} {xs : Nat → Int32} (X : LX k b L xs) {N : Nat} (hN0 : 2097152 ≤ N) {rG rV rN rL : Nat} {aS aT aM aV a0 a1 : Nat → Nat} {v : VS} {z : VV} {tx : VT} {n0 n1 : Option VS} {m : VM} {g : Nat → Int64} {q : Nat} (hq : q ≤ 800000) (h : SM q v z tx n0 n1 m) {i : Int32} (h1 : vp_in (i + 1) L) (h2 : vp_in (i + 2) L) {cs sl : Nat} (hcs : cs + 10 ≤ room_1.cells) (hsl : sl + 163 ≤ room_1.slots) (K : KK k b rG rV rN rL aS aT aM (q + 400) i (cs + 10) (sl + 163)) : gG k (wAll (kD k) rG rV rN rL aS aT aM aV a0 a1 v z tx n0 n1 m g) (lvW b rG rL aM i) cs sl 1150 [] := by
  obtain ⟨p1, e1⟩ : ∃ p1, xs (i + 1).toNatClampNeg = p1 := ⟨_, rfl⟩
  obtain ⟨p2, e2⟩ : ∃ p2, xs (i + 2).toNatClampNeg = p2 := ⟨_, rfl⟩
  unfold wAll lvW
  obtain ⟨r, m2, y, hX, hY, hr⟩ := (sim_ranked hN0 (by omega) h p1 p2).out
  refine g_aload_n (pc := 1150) (x := rG) C dL_law_1150 rfl ?_
  refine g_aload_n (pc := 1151) (x := b) C dL_law_1151 rfl ?_
  refine g_iload (pc := 1152) (x := i) C dL_law_1152 rfl ?_
  refine g_iconst (pc := 1154) (v := 1) C dL_law_1154 (by decide) ?_
  refine g_iadd (pc := 1155) C dL_law_1155 ?_
  refine g_xld (pc := 1156) C X h1 e1 dL_law_1156 ?_
  refine g_aload_n (pc := 1157) (x := b) C dL_law_1157 rfl ?_
  refine g_iload (pc := 1158) (x := i) C dL_law_1158 rfl ?_
  refine g_iconst (pc := 1160) (v := 2) C dL_law_1160 (by decide) ?_
  refine g_iadd (pc := 1161) C dL_law_1161 ?_
  refine g_xld (pc := 1162) C X h2 e2 dL_law_1162 ?_
  refine g_aload_n (pc := 1163) (x := rL) C dL_law_1163 rfl ?_
  refine g_callM (pc := 1164) (wr := (wV (kD k) rV aV z ++ (wT (kD k) aT tx ++ (wN (kD k) rN (fN a0 a1 n0 n1) ++ (wO (kD k) a0 n0 ++ (wO (kD k) a1 n1 ++ wM (kD k) aM m)))))) (rest := []) C as3 (cL_ranked_ (kL k) C.tr (kD k) rG rL g p1 p2 _ _ (wG (kD k) rG (aS 0) rV rN (aT 0) ++ wS (kD k) aS v) rfl _ _ (cX4_ranked_ (kL k) C.tr (kD k) N rG rV rN (aT 0) aS v p1 p2 r hX) (fun rv w h => by
      obtain ⟨a, -, e, -⟩ := h
      exact ⟨_, e⟩) (fun X w h => by
      obtain ⟨t, ht, e⟩ := PX_in ok_ranked hr X w h
      rw [List.mem_singleton.mp ht] at e
      exact e)) (fun ht => vx_cwSW 4 ht gL_law_L_ranked rfl rfl rfl hsL_ranked ⟨(Nat.le_of_ble_eq_true rfl), (Nat.le_of_ble_eq_true rfl)⟩) rfl rfl (Nat.le_of_ble_eq_true rfl) dL_law_1164 ⟨by show cs + 2 ≤ _; omega, by show sl + 12 ≤ _; omega⟩ (fun rv w1 hp => ?_)
  obtain ⟨j, g2, w2, rfl, rfl, hj, h0, hw⟩ := PH_out (pv := (fun b : Int32 => b)) (PW := (fun (_ : Int32) (w : va_W) => w = (wG (kD k) rG (aS 0) rV rN (aT 0) ++ wS (kD k) aS v))) (w0 := (wG (kD k) rG (aS 0) rV rN (aT 0) ++ wS (kD k) aS v)) ok_ranked hr hp
  obtain ⟨rfl, hs⟩ : w2 = (wG (kD k) rG (aS 0) rV rN (aT 0) ++ wS (kD k) aS v) ∧ SM (q + 400) v z tx n0 n1 m2 := by
    rcases hw with ⟨rfl, hs⟩ | ⟨a, rfl, hs⟩
    · exact ⟨rfl, hs.mono (by omega)⟩
    · exact ⟨rfl, hs.mono (by omega)⟩
  refine g_Perm as3.symm ?_
  refine g_stack (st' := [.int j]) rfl ?_
  refine g_istore (pc := 1167) (lv' := [(5, .int j), (4, .int i), (3, .ref rL), (2, .ref (aM 0)), (1, .ref rG), (0, .ref b)]) C dL_law_1167 (by decide) rfl ?_
  refine g_aload_n (pc := 1169) (x := aM 0) C dL_law_1169 rfl ?_
  refine g_aload_n (pc := 1170) (x := b) C dL_law_1170 rfl ?_
  refine g_iload (pc := 1171) (x := i) C dL_law_1171 rfl ?_
  refine g_iconst (pc := 1173) (v := 1) C dL_law_1173 (by decide) ?_
  refine g_iadd (pc := 1174) C dL_law_1174 ?_
  refine g_xld (pc := 1175) C X h1 e1 dL_law_1175 ?_
  refine g_aload_n (pc := 1176) (x := b) C dL_law_1176 rfl ?_
  refine g_iload (pc := 1177) (x := i) C dL_law_1177 rfl ?_
  refine g_iconst (pc := 1179) (v := 2) C dL_law_1179 (by decide) ?_
  refine g_iadd (pc := 1180) C dL_law_1180 ?_
  refine g_xld (pc := 1181) C X h2 e2 dL_law_1181 ?_
  refine g_callV (pc := 1182) (wc := wM (kD k) aM m) (wr := (wL (kD k) rL g2 ++ (wG (kD k) rG (aS 0) rV rN (aT 0) ++ (wS (kD k) aS v ++ (wV (kD k) rV aV z ++ (wT (kD k) aT tx ++ (wN (kD k) rN (fN a0 a1 n0 n1) ++ (wO (kD k) a0 n0 ++ wO (kD k) a1 n1)))))))) C (pm0 (pm0 (pm0 (pm0 (pm0 (pm0 (pm0 pmL))))))) (gr_V (y := yX5_ranked) (As := [.int p1, .int p2]) (rest := []) C (cX5_ranked_ (kL k) C.tr (kD k) N aM m p1 p2 (m2, y) hY) (fun ht => cwV 2 ht gL_law_X5_ranked rfl rfl rfl hdX5_ranked ⟨(Nat.le_of_ble_eq_true rfl), (Nat.le_of_ble_eq_true rfl)⟩) 0 rfl rfl _ (rg_map _ _) (rg_nd _) rfl rfl (Nat.le_of_ble_eq_true rfl) dL_law_1182 ⟨by show cs + 2 + 0 ≤ _; omega, by show sl + 12 + 0 ≤ _; omega⟩) (fun rv w1 hp => ?_)
  obtain ⟨rfl, rfl⟩ := hp
  refine g_stack (st' := [.int y]) rfl ?_
  refine g_istore (pc := 1185) (lv' := [(6, .int y), (5, .int j), (4, .int i), (3, .ref rL), (2, .ref (aM 0)), (1, .ref rG), (0, .ref b)]) C dL_law_1185 (by decide) rfl ?_
  refine g_aload_n (pc := 1187) (x := aM 0) C dL_law_1187 rfl ?_
  refine g_callV (pc := 1188) (wc := wM (kD k) aM m2) (wr := (wL (kD k) rL g2 ++ (wG (kD k) rG (aS 0) rV rN (aT 0) ++ (wS (kD k) aS v ++ (wV (kD k) rV aV z ++ (wT (kD k) aT tx ++ (wN (kD k) rN (fN a0 a1 n0 n1) ++ (wO (kD k) a0 n0 ++ wO (kD k) a1 n1)))))))) C (List.Perm.refl _) (gr_V (y := yX5_thrown) (As := []) (rest := []) C (cX5_thrown_ (kL k) C.tr (kD k) N aM m2 (mThr m2) rfl) (fun ht => cwV 0 ht gL_law_X5_thrown rfl rfl rfl hdX5_thrown ⟨(Nat.le_of_ble_eq_true rfl), (Nat.le_of_ble_eq_true rfl)⟩) 0 rfl rfl _ (rg_map _ _) (rg_nd _) rfl rfl (Nat.le_of_ble_eq_true rfl) dL_law_1188 ⟨by show cs + 2 + 0 + 0 ≤ _; omega, by show sl + 12 + 0 + 0 ≤ _; omega⟩) (fun rv w1 hp => ?_)
  obtain ⟨rfl, rfl⟩ := hp
  refine g_stack (st' := [.int (mThr m2)]) rfl ?_
  refine g_iload (pc := 1191) (x := j) C dL_law_1191 rfl ?_
  refine g_icmpeqC (pc := 1193) (tgt := 1198) C hj dL_law_1193 (by decide) ?_
  have END : gG k (wM (kD k) aM m2 ++ (wL (kD k) rL g2 ++ (wG (kD k) rG (aS 0) rV rN (aT 0) ++ (wS (kD k) aS v ++ (wV (kD k) rV aV z ++ (wT (kD k) aT tx ++ (wN (kD k) rN (fN a0 a1 n0 n1) ++ (wO (kD k) a0 n0 ++ wO (kD k) a1 n1)))))))) [(6, .int y), (5, .int j), (4, .int i), (3, .ref rL), (2, .ref (aM 0)), (1, .ref rG), (0, .ref b)] (cs + 2 + 0 + 0) (sl + 12 + 0 + 0) 1215 [] := by
    refine g_goto (pc := 1215) (tgt := 1811) C dL_law_1215 (by decide) ?_
    refine g_lv [2, 3, 4, 5, 6] (lv' := lvW b rG rL aM i) rfl ?_
    refine g_widen (c2 := cs + 10) (s2 := sl + 163) (by omega) (by omega) ?_
    exact g_Perm ((pm0 (List.Perm.refl _)).trans (pmc ((pm0 (List.Perm.refl _)).trans (pmc ((pm0 (List.Perm.refl _)).trans (pmc ((pm0 (List.Perm.refl _)).trans (pmc ((pm0 (List.Perm.refl _)).trans (pmc ((pm0 (List.Perm.refl _)).trans (pmc ((pm0 (List.Perm.refl _)).trans (pmc pmL)))))))))))))) (K aV a0 a1 v z tx n0 n1 m2 g2 hs)
  refine g_iload (pc := 1198) (x := j) C dL_law_1198 rfl ?_
  refine g_ifneC (pc := 1200) (tgt := 1215) C dL_law_1200 (by decide) (fun _ => END) (fun hj0 => ?_)
  refine g_aload_n (pc := 1203) (x := rL) C dL_law_1203 rfl ?_
  refine g_iconst (pc := 1204) (v := 0) C dL_law_1204 (by decide) ?_
  refine g_lald (pc := 1205) (X := some ()) (r := ()) (n := 1) (f := g2) rfl C 10 rfl dL_law_1205 (fun _ => ?_)
  refine g_iload (pc := 1206) (x := y) C dL_law_1206 rfl ?_
  refine g_i2l (pc := 1208) C dL_law_1208 ?_
  refine g_lcmp0 (pc := 1209) C (h0 hj0) dL_law_1209 ?_
  exact g_ifeqC (pc := 1210) (tgt := 1215) C dL_law_1210 (by decide) (fun _ => END) (fun hz => absurd rfl hz)
theorem ok_lengths : okC [(1, 1)] csL_lengths := by decide +kernel
set_option maxRecDepth 100000 in
set_option maxHeartbeats 4000000 in
theorem op_lengths {k : Kt} {nm : String} (C : gC k cL_law 9 RL wsL_law room_1 nm) {b L : Nat} {xs : Nat → Int32} (X : LX k b L xs) {N : Nat} (hN0 : 2097152 ≤ N) {rG rV rN rL : Nat} {aS aT aM aV a0 a1 : Nat → Nat} {v : VS} {z : VV} {tx : VT} {n0 n1 : Option VS} {m : VM} {g : Nat → Int64} {q : Nat} (hq : q ≤ 800000) (h : SM q v z tx n0 n1 m) {i : Int32} (h1 : vp_in (i + 1) L) (h2 : vp_in (i + 2) L) {cs sl : Nat} (hcs : cs + 10 ≤ room_1.cells) (hsl : sl + 163 ≤ room_1.slots) (K : KK k b rG rV rN rL aS aT aM (q + 400) i (cs + 10) (sl + 163)) : gG k (wAll (kD k) rG rV rN rL aS aT aM aV a0 a1 v z tx n0 n1 m g) (lvW b rG rL aM i) cs sl 1218 [] := by
  obtain ⟨p1, e1⟩ : ∃ p1, xs (i + 1).toNatClampNeg = p1 := ⟨_, rfl⟩
  obtain ⟨p2, e2⟩ : ∃ p2, xs (i + 2).toNatClampNeg = p2 := ⟨_, rfl⟩
  unfold wAll lvW
  obtain ⟨r, m2, y, hX, hY, hr⟩ := (sim_lengths hN0 h p1).out
  refine g_aload_n (pc := 1218) (x := rG) C dL_law_1218 rfl ?_
  refine g_aload_n (pc := 1219) (x := b) C dL_law_1219 rfl ?_
  refine g_iload (pc := 1220) (x := i) C dL_law_1220 rfl ?_
  refine g_iconst (pc := 1222) (v := 1) C dL_law_1222 (by decide) ?_
  refine g_iadd (pc := 1223) C dL_law_1223 ?_
  refine g_xld (pc := 1224) C X h1 e1 dL_law_1224 ?_
  refine g_aload_n (pc := 1225) (x := rL) C dL_law_1225 rfl ?_
  refine g_callM (pc := 1226) (wr := (wV (kD k) rV aV z ++ (wT (kD k) aT tx ++ (wN (kD k) rN (fN a0 a1 n0 n1) ++ (wO (kD k) a0 n0 ++ (wO (kD k) a1 n1 ++ wM (kD k) aM m)))))) (rest := []) C as3 (cL_lengths_ (kL k) C.tr (kD k) rG rL g p1 _ _ (wG (kD k) rG (aS 0) rV rN (aT 0) ++ wS (kD k) aS v) rfl _ _ (cX4_lengths_ (kL k) C.tr (kD k) N rG rV rN (aT 0) aS v p1 r hX) (fun rv w h => by
      obtain ⟨a, -, e, -⟩ := h
      exact ⟨_, e⟩) (fun X w h => by
      obtain ⟨t, ht, e⟩ := PX_in ok_lengths hr X w h
      rw [List.mem_singleton.mp ht] at e
      exact e)) (fun ht => vx_cwSW 3 ht gL_law_L_lengths rfl rfl rfl hsL_lengths ⟨(Nat.le_of_ble_eq_true rfl), (Nat.le_of_ble_eq_true rfl)⟩) rfl rfl (Nat.le_of_ble_eq_true rfl) dL_law_1226 ⟨by show cs + 1 ≤ _; omega, by show sl + 6 ≤ _; omega⟩ (fun rv w1 hp => ?_)
  obtain ⟨j, g2, w2, rfl, rfl, hj, h0, hw⟩ := PH_out (pv := (fun b : Int32 => b)) (PW := (fun (_ : Int32) (w : va_W) => w = (wG (kD k) rG (aS 0) rV rN (aT 0) ++ wS (kD k) aS v))) (w0 := (wG (kD k) rG (aS 0) rV rN (aT 0) ++ wS (kD k) aS v)) ok_lengths hr hp
  obtain ⟨rfl, hs⟩ : w2 = (wG (kD k) rG (aS 0) rV rN (aT 0) ++ wS (kD k) aS v) ∧ SM (q + 400) v z tx n0 n1 m2 := by
    rcases hw with ⟨rfl, hs⟩ | ⟨a, rfl, hs⟩
    · exact ⟨rfl, hs.mono (by omega)⟩
    · exact ⟨rfl, hs.mono (by omega)⟩
  refine g_Perm as3.symm ?_
  refine g_stack (st' := [.int j]) rfl ?_
  refine g_istore (pc := 1229) (lv' := [(5, .int j), (4, .int i), (3, .ref rL), (2, .ref (aM 0)), (1, .ref rG), (0, .ref b)]) C dL_law_1229 (by decide) rfl ?_
  refine g_aload_n (pc := 1231) (x := aM 0) C dL_law_1231 rfl ?_
  refine g_aload_n (pc := 1232) (x := b) C dL_law_1232 rfl ?_
  refine g_iload (pc := 1233) (x := i) C dL_law_1233 rfl ?_
  refine g_iconst (pc := 1235) (v := 1) C dL_law_1235 (by decide) ?_
  refine g_iadd (pc := 1236) C dL_law_1236 ?_
  refine g_xld (pc := 1237) C X h1 e1 dL_law_1237 ?_
  refine g_callV (pc := 1238) (wc := wM (kD k) aM m) (wr := (wL (kD k) rL g2 ++ (wG (kD k) rG (aS 0) rV rN (aT 0) ++ (wS (kD k) aS v ++ (wV (kD k) rV aV z ++ (wT (kD k) aT tx ++ (wN (kD k) rN (fN a0 a1 n0 n1) ++ (wO (kD k) a0 n0 ++ wO (kD k) a1 n1)))))))) C (pm0 (pm0 (pm0 (pm0 (pm0 (pm0 (pm0 pmL))))))) (gr_V (y := yX5_lengths) (As := [.int p1]) (rest := []) C (cX5_lengths_ (kL k) C.tr (kD k) N aM m p1 (m2, y) hY) (fun ht => cwV 1 ht gL_law_X5_lengths rfl rfl rfl hdX5_lengths ⟨(Nat.le_of_ble_eq_true rfl), (Nat.le_of_ble_eq_true rfl)⟩) 0 rfl rfl _ (rg_map _ _) (rg_nd _) rfl rfl (Nat.le_of_ble_eq_true rfl) dL_law_1238 ⟨by show cs + 1 + 0 ≤ _; omega, by show sl + 6 + 0 ≤ _; omega⟩) (fun rv w1 hp => ?_)
  obtain ⟨rfl, rfl⟩ := hp
  refine g_stack (st' := [.int y]) rfl ?_
  refine g_istore (pc := 1241) (lv' := [(6, .int y), (5, .int j), (4, .int i), (3, .ref rL), (2, .ref (aM 0)), (1, .ref rG), (0, .ref b)]) C dL_law_1241 (by decide) rfl ?_
  refine g_aload_n (pc := 1243) (x := aM 0) C dL_law_1243 rfl ?_
  refine g_callV (pc := 1244) (wc := wM (kD k) aM m2) (wr := (wL (kD k) rL g2 ++ (wG (kD k) rG (aS 0) rV rN (aT 0) ++ (wS (kD k) aS v ++ (wV (kD k) rV aV z ++ (wT (kD k) aT tx ++ (wN (kD k) rN (fN a0 a1 n0 n1) ++ (wO (kD k) a0 n0 ++ wO (kD k) a1 n1)))))))) C (List.Perm.refl _) (gr_V (y := yX5_thrown) (As := []) (rest := []) C (cX5_thrown_ (kL k) C.tr (kD k) N aM m2 (mThr m2) rfl) (fun ht => cwV 0 ht gL_law_X5_thrown rfl rfl rfl hdX5_thrown ⟨(Nat.le_of_ble_eq_true rfl), (Nat.le_of_ble_eq_true rfl)⟩) 0 rfl rfl _ (rg_map _ _) (rg_nd _) rfl rfl (Nat.le_of_ble_eq_true rfl) dL_law_1244 ⟨by show cs + 1 + 0 + 0 ≤ _; omega, by show sl + 6 + 0 + 0 ≤ _; omega⟩) (fun rv w1 hp => ?_)
  obtain ⟨rfl, rfl⟩ := hp
  refine g_stack (st' := [.int (mThr m2)]) rfl ?_
  refine g_iload (pc := 1247) (x := j) C dL_law_1247 rfl ?_
  refine g_icmpeqC (pc := 1249) (tgt := 1254) C hj dL_law_1249 (by decide) ?_
  have END : gG k (wM (kD k) aM m2 ++ (wL (kD k) rL g2 ++ (wG (kD k) rG (aS 0) rV rN (aT 0) ++ (wS (kD k) aS v ++ (wV (kD k) rV aV z ++ (wT (kD k) aT tx ++ (wN (kD k) rN (fN a0 a1 n0 n1) ++ (wO (kD k) a0 n0 ++ wO (kD k) a1 n1)))))))) [(6, .int y), (5, .int j), (4, .int i), (3, .ref rL), (2, .ref (aM 0)), (1, .ref rG), (0, .ref b)] (cs + 1 + 0 + 0) (sl + 6 + 0 + 0) 1271 [] := by
    refine g_goto (pc := 1271) (tgt := 1811) C dL_law_1271 (by decide) ?_
    refine g_lv [2, 3, 4, 5, 6] (lv' := lvW b rG rL aM i) rfl ?_
    refine g_widen (c2 := cs + 10) (s2 := sl + 163) (by omega) (by omega) ?_
    exact g_Perm ((pm0 (List.Perm.refl _)).trans (pmc ((pm0 (List.Perm.refl _)).trans (pmc ((pm0 (List.Perm.refl _)).trans (pmc ((pm0 (List.Perm.refl _)).trans (pmc ((pm0 (List.Perm.refl _)).trans (pmc ((pm0 (List.Perm.refl _)).trans (pmc ((pm0 (List.Perm.refl _)).trans (pmc pmL)))))))))))))) (K aV a0 a1 v z tx n0 n1 m2 g2 hs)
  refine g_iload (pc := 1254) (x := j) C dL_law_1254 rfl ?_
  refine g_ifneC (pc := 1256) (tgt := 1271) C dL_law_1256 (by decide) (fun _ => END) (fun hj0 => ?_)
  refine g_aload_n (pc := 1259) (x := rL) C dL_law_1259 rfl ?_
  refine g_iconst (pc := 1260) (v := 0) C dL_law_1260 (by decide) ?_
  refine g_lald (pc := 1261) (X := some ()) (r := ()) (n := 1) (f := g2) rfl C 10 rfl dL_law_1261 (fun _ => ?_)
  refine g_iload (pc := 1262) (x := y) C dL_law_1262 rfl ?_
  refine g_i2l (pc := 1264) C dL_law_1264 ?_
  refine g_lcmp0 (pc := 1265) C (h0 hj0) dL_law_1265 ?_
  exact g_ifeqC (pc := 1266) (tgt := 1271) C dL_law_1266 (by decide) (fun _ => END) (fun hz => absurd rfl hz)
theorem ok_count : okC [(1, 1)] csL_count := by decide +kernel
set_option maxRecDepth 100000 in
set_option maxHeartbeats 4000000 in
theorem op_count {k : Kt} {nm : String} (C : gC k cL_law 9 RL wsL_law room_1 nm) {b L : Nat} {xs : Nat → Int32} (X : LX k b L xs) {N : Nat} (hN0 : 2097152 ≤ N) {rG rV rN rL : Nat} {aS aT aM aV a0 a1 : Nat → Nat} {v : VS} {z : VV} {tx : VT} {n0 n1 : Option VS} {m : VM} {g : Nat → Int64} {q : Nat} (hq : q ≤ 800000) (h : SM q v z tx n0 n1 m) {i : Int32} (h1 : vp_in (i + 1) L) (h2 : vp_in (i + 2) L) {cs sl : Nat} (hcs : cs + 10 ≤ room_1.cells) (hsl : sl + 163 ≤ room_1.slots) (K : KK k b rG rV rN rL aS aT aM (q + 400) i (cs + 10) (sl + 163)) : gG k (wAll (kD k) rG rV rN rL aS aT aM aV a0 a1 v z tx n0 n1 m g) (lvW b rG rL aM i) cs sl 1274 [] := by
  obtain ⟨p1, e1⟩ : ∃ p1, xs (i + 1).toNatClampNeg = p1 := ⟨_, rfl⟩
  obtain ⟨p2, e2⟩ : ∃ p2, xs (i + 2).toNatClampNeg = p2 := ⟨_, rfl⟩
  unfold wAll lvW
  obtain ⟨r, m2, y, hX, hY, hr⟩ := (sim_count hN0 h p1).out
  refine g_aload_n (pc := 1274) (x := rG) C dL_law_1274 rfl ?_
  refine g_aload_n (pc := 1275) (x := b) C dL_law_1275 rfl ?_
  refine g_iload (pc := 1276) (x := i) C dL_law_1276 rfl ?_
  refine g_iconst (pc := 1278) (v := 1) C dL_law_1278 (by decide) ?_
  refine g_iadd (pc := 1279) C dL_law_1279 ?_
  refine g_xld (pc := 1280) C X h1 e1 dL_law_1280 ?_
  refine g_aload_n (pc := 1281) (x := rL) C dL_law_1281 rfl ?_
  refine g_callM (pc := 1282) (wr := (wN (kD k) rN (fN a0 a1 n0 n1) ++ (wO (kD k) a0 n0 ++ (wO (kD k) a1 n1 ++ wM (kD k) aM m)))) (rest := []) C ((pmc (pmc (pmc (pm0 (List.Perm.refl _))))).trans as5) (cL_count_ (kL k) C.tr (kD k) rG rL g p1 _ _ (wG (kD k) rG (aS 0) rV rN (aT 0) ++ (wS (kD k) aS v ++ (wT (kD k) aT tx ++ wV (kD k) rV aV z))) rfl _ _ (cX4_count_ (kL k) C.tr (kD k) N rG rN aS aT rV aV v tx z p1 r hX) (fun rv w h => by
      obtain ⟨a, -, e, -⟩ := h
      exact ⟨_, e⟩) (fun X w h => by
      obtain ⟨t, ht, e⟩ := PX_in ok_count hr X w h
      rw [List.mem_singleton.mp ht] at e
      exact e)) (fun ht => vx_cwSW 3 ht gL_law_L_count rfl rfl rfl hsL_count ⟨(Nat.le_of_ble_eq_true rfl), (Nat.le_of_ble_eq_true rfl)⟩) rfl rfl (Nat.le_of_ble_eq_true rfl) dL_law_1282 ⟨by show cs + 1 ≤ _; omega, by show sl + 6 ≤ _; omega⟩ (fun rv w1 hp => ?_)
  obtain ⟨j, g2, w2, rfl, rfl, hj, h0, hw⟩ := PH_out (pv := (fun b : Int32 => b)) (PW := (fun (_ : Int32) (w : va_W) => w = (wG (kD k) rG (aS 0) rV rN (aT 0) ++ (wS (kD k) aS v ++ (wT (kD k) aT tx ++ wV (kD k) rV aV z))))) (w0 := (wG (kD k) rG (aS 0) rV rN (aT 0) ++ (wS (kD k) aS v ++ (wT (kD k) aT tx ++ wV (kD k) rV aV z)))) ok_count hr hp
  obtain ⟨rfl, hs⟩ : w2 = (wG (kD k) rG (aS 0) rV rN (aT 0) ++ (wS (kD k) aS v ++ (wT (kD k) aT tx ++ wV (kD k) rV aV z))) ∧ SM (q + 400) v z tx n0 n1 m2 := by
    rcases hw with ⟨rfl, hs⟩ | ⟨a, rfl, hs⟩
    · exact ⟨rfl, hs.mono (by omega)⟩
    · exact ⟨rfl, hs.mono (by omega)⟩
  refine g_Perm as5.symm ?_
  refine g_stack (st' := [.int j]) rfl ?_
  refine g_istore (pc := 1285) (lv' := [(5, .int j), (4, .int i), (3, .ref rL), (2, .ref (aM 0)), (1, .ref rG), (0, .ref b)]) C dL_law_1285 (by decide) rfl ?_
  refine g_aload_n (pc := 1287) (x := aM 0) C dL_law_1287 rfl ?_
  refine g_aload_n (pc := 1288) (x := b) C dL_law_1288 rfl ?_
  refine g_iload (pc := 1289) (x := i) C dL_law_1289 rfl ?_
  refine g_iconst (pc := 1291) (v := 1) C dL_law_1291 (by decide) ?_
  refine g_iadd (pc := 1292) C dL_law_1292 ?_
  refine g_xld (pc := 1293) C X h1 e1 dL_law_1293 ?_
  refine g_callV (pc := 1294) (wc := wM (kD k) aM m) (wr := (wL (kD k) rL g2 ++ (wG (kD k) rG (aS 0) rV rN (aT 0) ++ (wS (kD k) aS v ++ (wT (kD k) aT tx ++ (wV (kD k) rV aV z ++ (wN (kD k) rN (fN a0 a1 n0 n1) ++ (wO (kD k) a0 n0 ++ wO (kD k) a1 n1)))))))) C (pm0 (pm0 (pm0 (pm0 (pm0 (pm0 (pm0 pmL))))))) (gr_V (y := yX5_count) (As := [.int p1]) (rest := []) C (cX5_count_ (kL k) C.tr (kD k) N aM m p1 (m2, y) hY) (fun ht => cwV 1 ht gL_law_X5_count rfl rfl rfl hdX5_count ⟨(Nat.le_of_ble_eq_true rfl), (Nat.le_of_ble_eq_true rfl)⟩) 0 rfl rfl _ (rg_map _ _) (rg_nd _) rfl rfl (Nat.le_of_ble_eq_true rfl) dL_law_1294 ⟨by show cs + 1 + 0 ≤ _; omega, by show sl + 6 + 0 ≤ _; omega⟩) (fun rv w1 hp => ?_)
  obtain ⟨rfl, rfl⟩ := hp
  refine g_stack (st' := [.int y]) rfl ?_
  refine g_istore (pc := 1297) (lv' := [(6, .int y), (5, .int j), (4, .int i), (3, .ref rL), (2, .ref (aM 0)), (1, .ref rG), (0, .ref b)]) C dL_law_1297 (by decide) rfl ?_
  refine g_aload_n (pc := 1299) (x := aM 0) C dL_law_1299 rfl ?_
  refine g_callV (pc := 1300) (wc := wM (kD k) aM m2) (wr := (wL (kD k) rL g2 ++ (wG (kD k) rG (aS 0) rV rN (aT 0) ++ (wS (kD k) aS v ++ (wT (kD k) aT tx ++ (wV (kD k) rV aV z ++ (wN (kD k) rN (fN a0 a1 n0 n1) ++ (wO (kD k) a0 n0 ++ wO (kD k) a1 n1)))))))) C (List.Perm.refl _) (gr_V (y := yX5_thrown) (As := []) (rest := []) C (cX5_thrown_ (kL k) C.tr (kD k) N aM m2 (mThr m2) rfl) (fun ht => cwV 0 ht gL_law_X5_thrown rfl rfl rfl hdX5_thrown ⟨(Nat.le_of_ble_eq_true rfl), (Nat.le_of_ble_eq_true rfl)⟩) 0 rfl rfl _ (rg_map _ _) (rg_nd _) rfl rfl (Nat.le_of_ble_eq_true rfl) dL_law_1300 ⟨by show cs + 1 + 0 + 0 ≤ _; omega, by show sl + 6 + 0 + 0 ≤ _; omega⟩) (fun rv w1 hp => ?_)
  obtain ⟨rfl, rfl⟩ := hp
  refine g_stack (st' := [.int (mThr m2)]) rfl ?_
  refine g_iload (pc := 1303) (x := j) C dL_law_1303 rfl ?_
  refine g_icmpeqC (pc := 1305) (tgt := 1310) C hj dL_law_1305 (by decide) ?_
  have END : gG k (wM (kD k) aM m2 ++ (wL (kD k) rL g2 ++ (wG (kD k) rG (aS 0) rV rN (aT 0) ++ (wS (kD k) aS v ++ (wT (kD k) aT tx ++ (wV (kD k) rV aV z ++ (wN (kD k) rN (fN a0 a1 n0 n1) ++ (wO (kD k) a0 n0 ++ wO (kD k) a1 n1)))))))) [(6, .int y), (5, .int j), (4, .int i), (3, .ref rL), (2, .ref (aM 0)), (1, .ref rG), (0, .ref b)] (cs + 1 + 0 + 0) (sl + 6 + 0 + 0) 1327 [] := by
    refine g_goto (pc := 1327) (tgt := 1811) C dL_law_1327 (by decide) ?_
    refine g_lv [2, 3, 4, 5, 6] (lv' := lvW b rG rL aM i) rfl ?_
    refine g_widen (c2 := cs + 10) (s2 := sl + 163) (by omega) (by omega) ?_
    exact g_Perm ((pm0 (List.Perm.refl _)).trans (pmc ((pm0 (List.Perm.refl _)).trans (pmc ((pm0 (List.Perm.refl _)).trans (pmc ((pm0 (pm0 (List.Perm.refl _))).trans (pmc ((pm0 (List.Perm.refl _)).trans (pmc ((pm0 (List.Perm.refl _)).trans (pmc ((pm0 (List.Perm.refl _)).trans (pmc pmL)))))))))))))) (K aV a0 a1 v z tx n0 n1 m2 g2 hs)
  refine g_iload (pc := 1310) (x := j) C dL_law_1310 rfl ?_
  refine g_ifneC (pc := 1312) (tgt := 1327) C dL_law_1312 (by decide) (fun _ => END) (fun hj0 => ?_)
  refine g_aload_n (pc := 1315) (x := rL) C dL_law_1315 rfl ?_
  refine g_iconst (pc := 1316) (v := 0) C dL_law_1316 (by decide) ?_
  refine g_lald (pc := 1317) (X := some ()) (r := ()) (n := 1) (f := g2) rfl C 10 rfl dL_law_1317 (fun _ => ?_)
  refine g_iload (pc := 1318) (x := y) C dL_law_1318 rfl ?_
  refine g_i2l (pc := 1320) C dL_law_1320 ?_
  refine g_lcmp0 (pc := 1321) C (h0 hj0) dL_law_1321 ?_
  exact g_ifeqC (pc := 1322) (tgt := 1327) C dL_law_1322 (by decide) (fun _ => END) (fun hz => absurd rfl hz)
theorem ok_setting : okC [(3, 1)] csL_setting := by decide +kernel
set_option maxRecDepth 100000 in
set_option maxHeartbeats 4000000 in
theorem op_setting {k : Kt} {nm : String} (C : gC k cL_law 9 RL wsL_law room_1 nm) {b L : Nat} {xs : Nat → Int32} (X : LX k b L xs) {N : Nat} (hN0 : 2097152 ≤ N) {rG rV rN rL : Nat} {aS aT aM aV a0 a1 : Nat → Nat} {v : VS} {z : VV} {tx : VT} {n0 n1 : Option VS} {m : VM} {g : Nat → Int64} {q : Nat} (hq : q ≤ 800000) (h : SM q v z tx n0 n1 m) {i : Int32} (h1 : vp_in (i + 1) L) (h2 : vp_in (i + 2) L) {cs sl : Nat} (hcs : cs + 10 ≤ room_1.cells) (hsl : sl + 163 ≤ room_1.slots) (K : KK k b rG rV rN rL aS aT aM (q + 400) i (cs + 10) (sl + 163)) : gG k (wAll (kD k) rG rV rN rL aS aT aM aV a0 a1 v z tx n0 n1 m g) (lvW b rG rL aM i) cs sl 1330 [] := by
  obtain ⟨p1, e1⟩ : ∃ p1, xs (i + 1).toNatClampNeg = p1 := ⟨_, rfl⟩
  obtain ⟨p2, e2⟩ : ∃ p2, xs (i + 2).toNatClampNeg = p2 := ⟨_, rfl⟩
  unfold wAll lvW
  obtain ⟨r, m2, y, hX, hY, hr⟩ := (sim_setting (N := N) h p1).out
  refine g_aload_n (pc := 1330) (x := rG) C dL_law_1330 rfl ?_
  refine g_aload_n (pc := 1331) (x := b) C dL_law_1331 rfl ?_
  refine g_iload (pc := 1332) (x := i) C dL_law_1332 rfl ?_
  refine g_iconst (pc := 1334) (v := 1) C dL_law_1334 (by decide) ?_
  refine g_iadd (pc := 1335) C dL_law_1335 ?_
  refine g_xld (pc := 1336) C X h1 e1 dL_law_1336 ?_
  refine g_aload_n (pc := 1337) (x := rL) C dL_law_1337 rfl ?_
  refine g_callM (pc := 1338) (wr := (wV (kD k) rV aV z ++ (wT (kD k) aT tx ++ (wN (kD k) rN (fN a0 a1 n0 n1) ++ (wO (kD k) a0 n0 ++ (wO (kD k) a1 n1 ++ wM (kD k) aM m)))))) (rest := []) C as3 (cL_setting_ (kL k) C.tr (kD k) rG rL g p1 _ _ (wG (kD k) rG (aS 0) rV rN (aT 0) ++ wS (kD k) aS v) rfl _ _ (cX4_setting_ (kL k) C.tr (kD k) N rG rV rN (aT 0) aS v p1 r hX) (fun rv w h => by
      obtain ⟨a, -, e, -⟩ := h
      exact ⟨_, e⟩) (fun X w h => by
      obtain ⟨t, ht, e⟩ := PX_in ok_setting hr X w h
      rw [List.mem_singleton.mp ht] at e
      exact e)) (fun ht => vx_cwSW 3 ht gL_law_L_setting rfl rfl rfl hsL_setting ⟨(Nat.le_of_ble_eq_true rfl), (Nat.le_of_ble_eq_true rfl)⟩) rfl rfl (Nat.le_of_ble_eq_true rfl) dL_law_1338 ⟨by show cs + 1 ≤ _; omega, by show sl + 6 ≤ _; omega⟩ (fun rv w1 hp => ?_)
  obtain ⟨j, g2, w2, rfl, rfl, hj, h0, hw⟩ := PH_out (pv := (fun b : Int32 => b)) (PW := (fun (_ : Int32) (w : va_W) => w = (wG (kD k) rG (aS 0) rV rN (aT 0) ++ wS (kD k) aS v))) (w0 := (wG (kD k) rG (aS 0) rV rN (aT 0) ++ wS (kD k) aS v)) ok_setting hr hp
  obtain ⟨rfl, hs⟩ : w2 = (wG (kD k) rG (aS 0) rV rN (aT 0) ++ wS (kD k) aS v) ∧ SM (q + 400) v z tx n0 n1 m2 := by
    rcases hw with ⟨rfl, hs⟩ | ⟨a, rfl, hs⟩
    · exact ⟨rfl, hs.mono (by omega)⟩
    · exact ⟨rfl, hs.mono (by omega)⟩
  refine g_Perm as3.symm ?_
  refine g_stack (st' := [.int j]) rfl ?_
  refine g_istore (pc := 1341) (lv' := [(5, .int j), (4, .int i), (3, .ref rL), (2, .ref (aM 0)), (1, .ref rG), (0, .ref b)]) C dL_law_1341 (by decide) rfl ?_
  refine g_aload_n (pc := 1343) (x := aM 0) C dL_law_1343 rfl ?_
  refine g_aload_n (pc := 1344) (x := b) C dL_law_1344 rfl ?_
  refine g_iload (pc := 1345) (x := i) C dL_law_1345 rfl ?_
  refine g_iconst (pc := 1347) (v := 1) C dL_law_1347 (by decide) ?_
  refine g_iadd (pc := 1348) C dL_law_1348 ?_
  refine g_xld (pc := 1349) C X h1 e1 dL_law_1349 ?_
  refine g_callV (pc := 1350) (wc := wM (kD k) aM m) (wr := (wL (kD k) rL g2 ++ (wG (kD k) rG (aS 0) rV rN (aT 0) ++ (wS (kD k) aS v ++ (wV (kD k) rV aV z ++ (wT (kD k) aT tx ++ (wN (kD k) rN (fN a0 a1 n0 n1) ++ (wO (kD k) a0 n0 ++ wO (kD k) a1 n1)))))))) C (pm0 (pm0 (pm0 (pm0 (pm0 (pm0 (pm0 pmL))))))) (gr_V (y := yX5_setting) (As := [.int p1]) (rest := []) C (cX5_setting_ (kL k) C.tr (kD k) N aM m p1 (m2, y) hY) (fun ht => cwV 1 ht gL_law_X5_setting rfl rfl rfl hdX5_setting ⟨(Nat.le_of_ble_eq_true rfl), (Nat.le_of_ble_eq_true rfl)⟩) 0 rfl rfl _ (rg_map _ _) (rg_nd _) rfl rfl (Nat.le_of_ble_eq_true rfl) dL_law_1350 ⟨by show cs + 1 + 0 ≤ _; omega, by show sl + 6 + 0 ≤ _; omega⟩) (fun rv w1 hp => ?_)
  obtain ⟨rfl, rfl⟩ := hp
  refine g_stack (st' := [.int y]) rfl ?_
  refine g_istore (pc := 1353) (lv' := [(6, .int y), (5, .int j), (4, .int i), (3, .ref rL), (2, .ref (aM 0)), (1, .ref rG), (0, .ref b)]) C dL_law_1353 (by decide) rfl ?_
  refine g_aload_n (pc := 1355) (x := aM 0) C dL_law_1355 rfl ?_
  refine g_callV (pc := 1356) (wc := wM (kD k) aM m2) (wr := (wL (kD k) rL g2 ++ (wG (kD k) rG (aS 0) rV rN (aT 0) ++ (wS (kD k) aS v ++ (wV (kD k) rV aV z ++ (wT (kD k) aT tx ++ (wN (kD k) rN (fN a0 a1 n0 n1) ++ (wO (kD k) a0 n0 ++ wO (kD k) a1 n1)))))))) C (List.Perm.refl _) (gr_V (y := yX5_thrown) (As := []) (rest := []) C (cX5_thrown_ (kL k) C.tr (kD k) N aM m2 (mThr m2) rfl) (fun ht => cwV 0 ht gL_law_X5_thrown rfl rfl rfl hdX5_thrown ⟨(Nat.le_of_ble_eq_true rfl), (Nat.le_of_ble_eq_true rfl)⟩) 0 rfl rfl _ (rg_map _ _) (rg_nd _) rfl rfl (Nat.le_of_ble_eq_true rfl) dL_law_1356 ⟨by show cs + 1 + 0 + 0 ≤ _; omega, by show sl + 6 + 0 + 0 ≤ _; omega⟩) (fun rv w1 hp => ?_)
  obtain ⟨rfl, rfl⟩ := hp
  refine g_stack (st' := [.int (mThr m2)]) rfl ?_
  refine g_iload (pc := 1359) (x := j) C dL_law_1359 rfl ?_
  refine g_icmpeqC (pc := 1361) (tgt := 1366) C hj dL_law_1361 (by decide) ?_
  have END : gG k (wM (kD k) aM m2 ++ (wL (kD k) rL g2 ++ (wG (kD k) rG (aS 0) rV rN (aT 0) ++ (wS (kD k) aS v ++ (wV (kD k) rV aV z ++ (wT (kD k) aT tx ++ (wN (kD k) rN (fN a0 a1 n0 n1) ++ (wO (kD k) a0 n0 ++ wO (kD k) a1 n1)))))))) [(6, .int y), (5, .int j), (4, .int i), (3, .ref rL), (2, .ref (aM 0)), (1, .ref rG), (0, .ref b)] (cs + 1 + 0 + 0) (sl + 6 + 0 + 0) 1383 [] := by
    refine g_goto (pc := 1383) (tgt := 1811) C dL_law_1383 (by decide) ?_
    refine g_lv [2, 3, 4, 5, 6] (lv' := lvW b rG rL aM i) rfl ?_
    refine g_widen (c2 := cs + 10) (s2 := sl + 163) (by omega) (by omega) ?_
    exact g_Perm ((pm0 (List.Perm.refl _)).trans (pmc ((pm0 (List.Perm.refl _)).trans (pmc ((pm0 (List.Perm.refl _)).trans (pmc ((pm0 (List.Perm.refl _)).trans (pmc ((pm0 (List.Perm.refl _)).trans (pmc ((pm0 (List.Perm.refl _)).trans (pmc ((pm0 (List.Perm.refl _)).trans (pmc pmL)))))))))))))) (K aV a0 a1 v z tx n0 n1 m2 g2 hs)
  refine g_iload (pc := 1366) (x := j) C dL_law_1366 rfl ?_
  refine g_ifneC (pc := 1368) (tgt := 1383) C dL_law_1368 (by decide) (fun _ => END) (fun hj0 => ?_)
  refine g_aload_n (pc := 1371) (x := rL) C dL_law_1371 rfl ?_
  refine g_iconst (pc := 1372) (v := 0) C dL_law_1372 (by decide) ?_
  refine g_lald (pc := 1373) (X := some ()) (r := ()) (n := 1) (f := g2) rfl C 10 rfl dL_law_1373 (fun _ => ?_)
  refine g_iload (pc := 1374) (x := y) C dL_law_1374 rfl ?_
  refine g_i2l (pc := 1376) C dL_law_1376 ?_
  refine g_lcmp0 (pc := 1377) C (h0 hj0) dL_law_1377 ?_
  exact g_ifeqC (pc := 1378) (tgt := 1383) C dL_law_1378 (by decide) (fun _ => END) (fun hz => absurd rfl hz)
theorem ok_refusal : okC [(3, 1)] csL_refusal := by decide +kernel
set_option maxRecDepth 100000 in
set_option maxHeartbeats 4000000 in
theorem op_refusal {k : Kt} {nm : String} (C : gC k cL_law 9 RL wsL_law room_1 nm) {b L : Nat} {xs : Nat → Int32} (X : LX k b L xs) {N : Nat} (hN0 : 2097152 ≤ N) {rG rV rN rL : Nat} {aS aT aM aV a0 a1 : Nat → Nat} {v : VS} {z : VV} {tx : VT} {n0 n1 : Option VS} {m : VM} {g : Nat → Int64} {q : Nat} (hq : q ≤ 800000) (h : SM q v z tx n0 n1 m) {i : Int32} (h1 : vp_in (i + 1) L) (h2 : vp_in (i + 2) L) {cs sl : Nat} (hcs : cs + 10 ≤ room_1.cells) (hsl : sl + 163 ≤ room_1.slots) (K : KK k b rG rV rN rL aS aT aM (q + 400) i (cs + 10) (sl + 163)) : gG k (wAll (kD k) rG rV rN rL aS aT aM aV a0 a1 v z tx n0 n1 m g) (lvW b rG rL aM i) cs sl 1386 [] := by
  obtain ⟨p1, e1⟩ : ∃ p1, xs (i + 1).toNatClampNeg = p1 := ⟨_, rfl⟩
  obtain ⟨p2, e2⟩ : ∃ p2, xs (i + 2).toNatClampNeg = p2 := ⟨_, rfl⟩
  unfold wAll lvW
  obtain ⟨r, m2, y, hX, hY, hr⟩ := (sim_refusal hN0 h p1 p2).out
  refine g_aload_n (pc := 1386) (x := rG) C dL_law_1386 rfl ?_
  refine g_aload_n (pc := 1387) (x := b) C dL_law_1387 rfl ?_
  refine g_iload (pc := 1388) (x := i) C dL_law_1388 rfl ?_
  refine g_iconst (pc := 1390) (v := 1) C dL_law_1390 (by decide) ?_
  refine g_iadd (pc := 1391) C dL_law_1391 ?_
  refine g_xld (pc := 1392) C X h1 e1 dL_law_1392 ?_
  refine g_aload_n (pc := 1393) (x := b) C dL_law_1393 rfl ?_
  refine g_iload (pc := 1394) (x := i) C dL_law_1394 rfl ?_
  refine g_iconst (pc := 1396) (v := 2) C dL_law_1396 (by decide) ?_
  refine g_iadd (pc := 1397) C dL_law_1397 ?_
  refine g_xld (pc := 1398) C X h2 e2 dL_law_1398 ?_
  refine g_aload_n (pc := 1399) (x := rL) C dL_law_1399 rfl ?_
  refine g_callM (pc := 1400) (wr := (wV (kD k) rV aV z ++ (wT (kD k) aT tx ++ (wN (kD k) rN (fN a0 a1 n0 n1) ++ (wO (kD k) a0 n0 ++ (wO (kD k) a1 n1 ++ wM (kD k) aM m)))))) (rest := []) C as3 (cL_refusal_ (kL k) C.tr (kD k) rG rL g p1 p2 _ _ (wG (kD k) rG (aS 0) rV rN (aT 0) ++ wS (kD k) aS v) rfl _ _ (cX4_refusal_ (kL k) C.tr (kD k) N rG rV rN (aT 0) aS v p1 p2 r hX) (fun rv w h => by
      obtain ⟨a, -, e, -⟩ := h
      exact ⟨_, e⟩) (fun X w h => by
      obtain ⟨t, ht, e⟩ := PX_in ok_refusal hr X w h
      rw [List.mem_singleton.mp ht] at e
      exact e)) (fun ht => vx_cwSW 4 ht gL_law_L_refusal rfl rfl rfl hsL_refusal ⟨(Nat.le_of_ble_eq_true rfl), (Nat.le_of_ble_eq_true rfl)⟩) rfl rfl (Nat.le_of_ble_eq_true rfl) dL_law_1400 ⟨by show cs + 2 ≤ _; omega, by show sl + 12 ≤ _; omega⟩ (fun rv w1 hp => ?_)
  obtain ⟨j, g2, w2, rfl, rfl, hj, h0, hw⟩ := PH_out (pv := (fun b : Int32 => b)) (PW := (fun (_ : Int32) (w : va_W) => w = (wG (kD k) rG (aS 0) rV rN (aT 0) ++ wS (kD k) aS v))) (w0 := (wG (kD k) rG (aS 0) rV rN (aT 0) ++ wS (kD k) aS v)) ok_refusal hr hp
  obtain ⟨rfl, hs⟩ : w2 = (wG (kD k) rG (aS 0) rV rN (aT 0) ++ wS (kD k) aS v) ∧ SM (q + 400) v z tx n0 n1 m2 := by
    rcases hw with ⟨rfl, hs⟩ | ⟨a, rfl, hs⟩
    · exact ⟨rfl, hs.mono (by omega)⟩
    · exact ⟨rfl, hs.mono (by omega)⟩
  refine g_Perm as3.symm ?_
  refine g_stack (st' := [.int j]) rfl ?_
  refine g_istore (pc := 1403) (lv' := [(5, .int j), (4, .int i), (3, .ref rL), (2, .ref (aM 0)), (1, .ref rG), (0, .ref b)]) C dL_law_1403 (by decide) rfl ?_
  refine g_aload_n (pc := 1405) (x := aM 0) C dL_law_1405 rfl ?_
  refine g_aload_n (pc := 1406) (x := b) C dL_law_1406 rfl ?_
  refine g_iload (pc := 1407) (x := i) C dL_law_1407 rfl ?_
  refine g_iconst (pc := 1409) (v := 1) C dL_law_1409 (by decide) ?_
  refine g_iadd (pc := 1410) C dL_law_1410 ?_
  refine g_xld (pc := 1411) C X h1 e1 dL_law_1411 ?_
  refine g_aload_n (pc := 1412) (x := b) C dL_law_1412 rfl ?_
  refine g_iload (pc := 1413) (x := i) C dL_law_1413 rfl ?_
  refine g_iconst (pc := 1415) (v := 2) C dL_law_1415 (by decide) ?_
  refine g_iadd (pc := 1416) C dL_law_1416 ?_
  refine g_xld (pc := 1417) C X h2 e2 dL_law_1417 ?_
  refine g_callV (pc := 1418) (wc := wM (kD k) aM m) (wr := (wL (kD k) rL g2 ++ (wG (kD k) rG (aS 0) rV rN (aT 0) ++ (wS (kD k) aS v ++ (wV (kD k) rV aV z ++ (wT (kD k) aT tx ++ (wN (kD k) rN (fN a0 a1 n0 n1) ++ (wO (kD k) a0 n0 ++ wO (kD k) a1 n1)))))))) C (pm0 (pm0 (pm0 (pm0 (pm0 (pm0 (pm0 pmL))))))) (gr_V (y := yX5_refusal) (As := [.int p1, .int p2]) (rest := []) C (cX5_refusal_ (kL k) C.tr (kD k) N aM m p1 p2 (m2, y) hY) (fun ht => cwV 2 ht gL_law_X5_refusal rfl rfl rfl hdX5_refusal ⟨(Nat.le_of_ble_eq_true rfl), (Nat.le_of_ble_eq_true rfl)⟩) 0 rfl rfl _ (rg_map _ _) (rg_nd _) rfl rfl (Nat.le_of_ble_eq_true rfl) dL_law_1418 ⟨by show cs + 2 + 0 ≤ _; omega, by show sl + 12 + 0 ≤ _; omega⟩) (fun rv w1 hp => ?_)
  obtain ⟨rfl, rfl⟩ := hp
  refine g_stack (st' := [.int y]) rfl ?_
  refine g_istore (pc := 1421) (lv' := [(6, .int y), (5, .int j), (4, .int i), (3, .ref rL), (2, .ref (aM 0)), (1, .ref rG), (0, .ref b)]) C dL_law_1421 (by decide) rfl ?_
  refine g_aload_n (pc := 1423) (x := aM 0) C dL_law_1423 rfl ?_
  refine g_callV (pc := 1424) (wc := wM (kD k) aM m2) (wr := (wL (kD k) rL g2 ++ (wG (kD k) rG (aS 0) rV rN (aT 0) ++ (wS (kD k) aS v ++ (wV (kD k) rV aV z ++ (wT (kD k) aT tx ++ (wN (kD k) rN (fN a0 a1 n0 n1) ++ (wO (kD k) a0 n0 ++ wO (kD k) a1 n1)))))))) C (List.Perm.refl _) (gr_V (y := yX5_thrown) (As := []) (rest := []) C (cX5_thrown_ (kL k) C.tr (kD k) N aM m2 (mThr m2) rfl) (fun ht => cwV 0 ht gL_law_X5_thrown rfl rfl rfl hdX5_thrown ⟨(Nat.le_of_ble_eq_true rfl), (Nat.le_of_ble_eq_true rfl)⟩) 0 rfl rfl _ (rg_map _ _) (rg_nd _) rfl rfl (Nat.le_of_ble_eq_true rfl) dL_law_1424 ⟨by show cs + 2 + 0 + 0 ≤ _; omega, by show sl + 12 + 0 + 0 ≤ _; omega⟩) (fun rv w1 hp => ?_)
  obtain ⟨rfl, rfl⟩ := hp
  refine g_stack (st' := [.int (mThr m2)]) rfl ?_
  refine g_iload (pc := 1427) (x := j) C dL_law_1427 rfl ?_
  refine g_icmpeqC (pc := 1429) (tgt := 1434) C hj dL_law_1429 (by decide) ?_
  have END : gG k (wM (kD k) aM m2 ++ (wL (kD k) rL g2 ++ (wG (kD k) rG (aS 0) rV rN (aT 0) ++ (wS (kD k) aS v ++ (wV (kD k) rV aV z ++ (wT (kD k) aT tx ++ (wN (kD k) rN (fN a0 a1 n0 n1) ++ (wO (kD k) a0 n0 ++ wO (kD k) a1 n1)))))))) [(6, .int y), (5, .int j), (4, .int i), (3, .ref rL), (2, .ref (aM 0)), (1, .ref rG), (0, .ref b)] (cs + 2 + 0 + 0) (sl + 12 + 0 + 0) 1451 [] := by
    refine g_goto (pc := 1451) (tgt := 1811) C dL_law_1451 (by decide) ?_
    refine g_lv [2, 3, 4, 5, 6] (lv' := lvW b rG rL aM i) rfl ?_
    refine g_widen (c2 := cs + 10) (s2 := sl + 163) (by omega) (by omega) ?_
    exact g_Perm ((pm0 (List.Perm.refl _)).trans (pmc ((pm0 (List.Perm.refl _)).trans (pmc ((pm0 (List.Perm.refl _)).trans (pmc ((pm0 (List.Perm.refl _)).trans (pmc ((pm0 (List.Perm.refl _)).trans (pmc ((pm0 (List.Perm.refl _)).trans (pmc ((pm0 (List.Perm.refl _)).trans (pmc pmL)))))))))))))) (K aV a0 a1 v z tx n0 n1 m2 g2 hs)
  refine g_iload (pc := 1434) (x := j) C dL_law_1434 rfl ?_
  refine g_ifneC (pc := 1436) (tgt := 1451) C dL_law_1436 (by decide) (fun _ => END) (fun hj0 => ?_)
  refine g_aload_n (pc := 1439) (x := rL) C dL_law_1439 rfl ?_
  refine g_iconst (pc := 1440) (v := 0) C dL_law_1440 (by decide) ?_
  refine g_lald (pc := 1441) (X := some ()) (r := ()) (n := 1) (f := g2) rfl C 10 rfl dL_law_1441 (fun _ => ?_)
  refine g_iload (pc := 1442) (x := y) C dL_law_1442 rfl ?_
  refine g_i2l (pc := 1444) C dL_law_1444 ?_
  refine g_lcmp0 (pc := 1445) C (h0 hj0) dL_law_1445 ?_
  exact g_ifeqC (pc := 1446) (tgt := 1451) C dL_law_1446 (by decide) (fun _ => END) (fun hz => absurd rfl hz)
theorem ok_fewest : okC [(1, 1)] csL_fewest := by decide +kernel
set_option maxRecDepth 100000 in
set_option maxHeartbeats 4000000 in
theorem op_fewest {k : Kt} {nm : String} (C : gC k cL_law 9 RL wsL_law room_1 nm) {b L : Nat} {xs : Nat → Int32} (X : LX k b L xs) {N : Nat} (hN0 : 2097152 ≤ N) {rG rV rN rL : Nat} {aS aT aM aV a0 a1 : Nat → Nat} {v : VS} {z : VV} {tx : VT} {n0 n1 : Option VS} {m : VM} {g : Nat → Int64} {q : Nat} (hq : q ≤ 800000) (h : SM q v z tx n0 n1 m) {i : Int32} (h1 : vp_in (i + 1) L) (h2 : vp_in (i + 2) L) {cs sl : Nat} (hcs : cs + 10 ≤ room_1.cells) (hsl : sl + 163 ≤ room_1.slots) (K : KK k b rG rV rN rL aS aT aM (q + 400) i (cs + 10) (sl + 163)) : gG k (wAll (kD k) rG rV rN rL aS aT aM aV a0 a1 v z tx n0 n1 m g) (lvW b rG rL aM i) cs sl 1454 [] := by
  obtain ⟨p1, e1⟩ : ∃ p1, xs (i + 1).toNatClampNeg = p1 := ⟨_, rfl⟩
  obtain ⟨p2, e2⟩ : ∃ p2, xs (i + 2).toNatClampNeg = p2 := ⟨_, rfl⟩
  unfold wAll lvW
  obtain ⟨r, m2, y, hX, hY, hr⟩ := (sim_fewest hN0 h p1 p2).out
  refine g_aload_n (pc := 1454) (x := rG) C dL_law_1454 rfl ?_
  refine g_aload_n (pc := 1455) (x := b) C dL_law_1455 rfl ?_
  refine g_iload (pc := 1456) (x := i) C dL_law_1456 rfl ?_
  refine g_iconst (pc := 1458) (v := 1) C dL_law_1458 (by decide) ?_
  refine g_iadd (pc := 1459) C dL_law_1459 ?_
  refine g_xld (pc := 1460) C X h1 e1 dL_law_1460 ?_
  refine g_aload_n (pc := 1461) (x := b) C dL_law_1461 rfl ?_
  refine g_iload (pc := 1462) (x := i) C dL_law_1462 rfl ?_
  refine g_iconst (pc := 1464) (v := 2) C dL_law_1464 (by decide) ?_
  refine g_iadd (pc := 1465) C dL_law_1465 ?_
  refine g_xld (pc := 1466) C X h2 e2 dL_law_1466 ?_
  refine g_aload_n (pc := 1467) (x := rL) C dL_law_1467 rfl ?_
  refine g_callM (pc := 1468) (wr := (wV (kD k) rV aV z ++ (wT (kD k) aT tx ++ (wN (kD k) rN (fN a0 a1 n0 n1) ++ (wO (kD k) a0 n0 ++ (wO (kD k) a1 n1 ++ wM (kD k) aM m)))))) (rest := []) C as3 (cL_fewest_ (kL k) C.tr (kD k) rG rL g p1 p2 _ _ (wG (kD k) rG (aS 0) rV rN (aT 0) ++ wS (kD k) aS v) rfl _ _ (cX4_fewest_ (kL k) C.tr (kD k) N rG rV rN (aT 0) aS v p1 p2 r hX) (fun rv w h => by
      obtain ⟨a, -, e, -⟩ := h
      exact ⟨_, e⟩) (fun X w h => by
      obtain ⟨t, ht, e⟩ := PX_in ok_fewest hr X w h
      rw [List.mem_singleton.mp ht] at e
      exact e)) (fun ht => vx_cwSW 4 ht gL_law_L_fewest rfl rfl rfl hsL_fewest ⟨(Nat.le_of_ble_eq_true rfl), (Nat.le_of_ble_eq_true rfl)⟩) rfl rfl (Nat.le_of_ble_eq_true rfl) dL_law_1468 ⟨by show cs + 2 ≤ _; omega, by show sl + 12 ≤ _; omega⟩ (fun rv w1 hp => ?_)
  obtain ⟨j, g2, w2, rfl, rfl, hj, h0, hw⟩ := PH_out (pv := (fun b : Int32 => b)) (PW := (fun (_ : Int32) (w : va_W) => w = (wG (kD k) rG (aS 0) rV rN (aT 0) ++ wS (kD k) aS v))) (w0 := (wG (kD k) rG (aS 0) rV rN (aT 0) ++ wS (kD k) aS v)) ok_fewest hr hp
  obtain ⟨rfl, hs⟩ : w2 = (wG (kD k) rG (aS 0) rV rN (aT 0) ++ wS (kD k) aS v) ∧ SM (q + 400) v z tx n0 n1 m2 := by
    rcases hw with ⟨rfl, hs⟩ | ⟨a, rfl, hs⟩
    · exact ⟨rfl, hs.mono (by omega)⟩
    · exact ⟨rfl, hs.mono (by omega)⟩
  refine g_Perm as3.symm ?_
  refine g_stack (st' := [.int j]) rfl ?_
  refine g_istore (pc := 1471) (lv' := [(5, .int j), (4, .int i), (3, .ref rL), (2, .ref (aM 0)), (1, .ref rG), (0, .ref b)]) C dL_law_1471 (by decide) rfl ?_
  refine g_aload_n (pc := 1473) (x := aM 0) C dL_law_1473 rfl ?_
  refine g_aload_n (pc := 1474) (x := b) C dL_law_1474 rfl ?_
  refine g_iload (pc := 1475) (x := i) C dL_law_1475 rfl ?_
  refine g_iconst (pc := 1477) (v := 1) C dL_law_1477 (by decide) ?_
  refine g_iadd (pc := 1478) C dL_law_1478 ?_
  refine g_xld (pc := 1479) C X h1 e1 dL_law_1479 ?_
  refine g_aload_n (pc := 1480) (x := b) C dL_law_1480 rfl ?_
  refine g_iload (pc := 1481) (x := i) C dL_law_1481 rfl ?_
  refine g_iconst (pc := 1483) (v := 2) C dL_law_1483 (by decide) ?_
  refine g_iadd (pc := 1484) C dL_law_1484 ?_
  refine g_xld (pc := 1485) C X h2 e2 dL_law_1485 ?_
  refine g_callV (pc := 1486) (wc := wM (kD k) aM m) (wr := (wL (kD k) rL g2 ++ (wG (kD k) rG (aS 0) rV rN (aT 0) ++ (wS (kD k) aS v ++ (wV (kD k) rV aV z ++ (wT (kD k) aT tx ++ (wN (kD k) rN (fN a0 a1 n0 n1) ++ (wO (kD k) a0 n0 ++ wO (kD k) a1 n1)))))))) C (pm0 (pm0 (pm0 (pm0 (pm0 (pm0 (pm0 pmL))))))) (gr_V (y := yX5_fewest) (As := [.int p1, .int p2]) (rest := []) C (cX5_fewest_ (kL k) C.tr (kD k) N aM m p1 p2 (m2, y) hY) (fun ht => cwV 2 ht gL_law_X5_fewest rfl rfl rfl hdX5_fewest ⟨(Nat.le_of_ble_eq_true rfl), (Nat.le_of_ble_eq_true rfl)⟩) 0 rfl rfl _ (rg_map _ _) (rg_nd _) rfl rfl (Nat.le_of_ble_eq_true rfl) dL_law_1486 ⟨by show cs + 2 + 0 ≤ _; omega, by show sl + 12 + 0 ≤ _; omega⟩) (fun rv w1 hp => ?_)
  obtain ⟨rfl, rfl⟩ := hp
  refine g_stack (st' := [.int y]) rfl ?_
  refine g_istore (pc := 1489) (lv' := [(6, .int y), (5, .int j), (4, .int i), (3, .ref rL), (2, .ref (aM 0)), (1, .ref rG), (0, .ref b)]) C dL_law_1489 (by decide) rfl ?_
  refine g_aload_n (pc := 1491) (x := aM 0) C dL_law_1491 rfl ?_
  refine g_callV (pc := 1492) (wc := wM (kD k) aM m2) (wr := (wL (kD k) rL g2 ++ (wG (kD k) rG (aS 0) rV rN (aT 0) ++ (wS (kD k) aS v ++ (wV (kD k) rV aV z ++ (wT (kD k) aT tx ++ (wN (kD k) rN (fN a0 a1 n0 n1) ++ (wO (kD k) a0 n0 ++ wO (kD k) a1 n1)))))))) C (List.Perm.refl _) (gr_V (y := yX5_thrown) (As := []) (rest := []) C (cX5_thrown_ (kL k) C.tr (kD k) N aM m2 (mThr m2) rfl) (fun ht => cwV 0 ht gL_law_X5_thrown rfl rfl rfl hdX5_thrown ⟨(Nat.le_of_ble_eq_true rfl), (Nat.le_of_ble_eq_true rfl)⟩) 0 rfl rfl _ (rg_map _ _) (rg_nd _) rfl rfl (Nat.le_of_ble_eq_true rfl) dL_law_1492 ⟨by show cs + 2 + 0 + 0 ≤ _; omega, by show sl + 12 + 0 + 0 ≤ _; omega⟩) (fun rv w1 hp => ?_)
  obtain ⟨rfl, rfl⟩ := hp
  refine g_stack (st' := [.int (mThr m2)]) rfl ?_
  refine g_iload (pc := 1495) (x := j) C dL_law_1495 rfl ?_
  refine g_icmpeqC (pc := 1497) (tgt := 1502) C hj dL_law_1497 (by decide) ?_
  have END : gG k (wM (kD k) aM m2 ++ (wL (kD k) rL g2 ++ (wG (kD k) rG (aS 0) rV rN (aT 0) ++ (wS (kD k) aS v ++ (wV (kD k) rV aV z ++ (wT (kD k) aT tx ++ (wN (kD k) rN (fN a0 a1 n0 n1) ++ (wO (kD k) a0 n0 ++ wO (kD k) a1 n1)))))))) [(6, .int y), (5, .int j), (4, .int i), (3, .ref rL), (2, .ref (aM 0)), (1, .ref rG), (0, .ref b)] (cs + 2 + 0 + 0) (sl + 12 + 0 + 0) 1519 [] := by
    refine g_goto (pc := 1519) (tgt := 1811) C dL_law_1519 (by decide) ?_
    refine g_lv [2, 3, 4, 5, 6] (lv' := lvW b rG rL aM i) rfl ?_
    refine g_widen (c2 := cs + 10) (s2 := sl + 163) (by omega) (by omega) ?_
    exact g_Perm ((pm0 (List.Perm.refl _)).trans (pmc ((pm0 (List.Perm.refl _)).trans (pmc ((pm0 (List.Perm.refl _)).trans (pmc ((pm0 (List.Perm.refl _)).trans (pmc ((pm0 (List.Perm.refl _)).trans (pmc ((pm0 (List.Perm.refl _)).trans (pmc ((pm0 (List.Perm.refl _)).trans (pmc pmL)))))))))))))) (K aV a0 a1 v z tx n0 n1 m2 g2 hs)
  refine g_iload (pc := 1502) (x := j) C dL_law_1502 rfl ?_
  refine g_ifneC (pc := 1504) (tgt := 1519) C dL_law_1504 (by decide) (fun _ => END) (fun hj0 => ?_)
  refine g_aload_n (pc := 1507) (x := rL) C dL_law_1507 rfl ?_
  refine g_iconst (pc := 1508) (v := 0) C dL_law_1508 (by decide) ?_
  refine g_lald (pc := 1509) (X := some ()) (r := ()) (n := 1) (f := g2) rfl C 10 rfl dL_law_1509 (fun _ => ?_)
  refine g_iload (pc := 1510) (x := y) C dL_law_1510 rfl ?_
  refine g_i2l (pc := 1512) C dL_law_1512 ?_
  refine g_lcmp0 (pc := 1513) C (h0 hj0) dL_law_1513 ?_
  exact g_ifeqC (pc := 1514) (tgt := 1519) C dL_law_1514 (by decide) (fun _ => END) (fun hz => absurd rfl hz)
theorem ok_oldWay : okC [(1, 1)] csL_oldWay := by decide +kernel
set_option maxRecDepth 100000 in
set_option maxHeartbeats 4000000 in
theorem op_oldWay {k : Kt} {nm : String} (C : gC k cL_law 9 RL wsL_law room_1 nm) {b L : Nat} {xs : Nat → Int32} (X : LX k b L xs) {N : Nat} (hN0 : 2097152 ≤ N) {rG rV rN rL : Nat} {aS aT aM aV a0 a1 : Nat → Nat} {v : VS} {z : VV} {tx : VT} {n0 n1 : Option VS} {m : VM} {g : Nat → Int64} {q : Nat} (hq : q ≤ 800000) (h : SM q v z tx n0 n1 m) {i : Int32} (h1 : vp_in (i + 1) L) (h2 : vp_in (i + 2) L) {cs sl : Nat} (hcs : cs + 10 ≤ room_1.cells) (hsl : sl + 163 ≤ room_1.slots) (K : KK k b rG rV rN rL aS aT aM (q + 400) i (cs + 10) (sl + 163)) : gG k (wAll (kD k) rG rV rN rL aS aT aM aV a0 a1 v z tx n0 n1 m g) (lvW b rG rL aM i) cs sl 1522 [] := by
  obtain ⟨p1, e1⟩ : ∃ p1, xs (i + 1).toNatClampNeg = p1 := ⟨_, rfl⟩
  obtain ⟨p2, e2⟩ : ∃ p2, xs (i + 2).toNatClampNeg = p2 := ⟨_, rfl⟩
  unfold wAll lvW
  obtain ⟨r, m2, y, hX, hY, hr⟩ := (sim_oldWay hN0 h p1 p2).out
  refine g_aload_n (pc := 1522) (x := rG) C dL_law_1522 rfl ?_
  refine g_aload_n (pc := 1523) (x := b) C dL_law_1523 rfl ?_
  refine g_iload (pc := 1524) (x := i) C dL_law_1524 rfl ?_
  refine g_iconst (pc := 1526) (v := 1) C dL_law_1526 (by decide) ?_
  refine g_iadd (pc := 1527) C dL_law_1527 ?_
  refine g_xld (pc := 1528) C X h1 e1 dL_law_1528 ?_
  refine g_aload_n (pc := 1529) (x := b) C dL_law_1529 rfl ?_
  refine g_iload (pc := 1530) (x := i) C dL_law_1530 rfl ?_
  refine g_iconst (pc := 1532) (v := 2) C dL_law_1532 (by decide) ?_
  refine g_iadd (pc := 1533) C dL_law_1533 ?_
  refine g_xld (pc := 1534) C X h2 e2 dL_law_1534 ?_
  refine g_aload_n (pc := 1535) (x := rL) C dL_law_1535 rfl ?_
  refine g_callM (pc := 1536) (wr := (wV (kD k) rV aV z ++ (wT (kD k) aT tx ++ (wN (kD k) rN (fN a0 a1 n0 n1) ++ (wO (kD k) a0 n0 ++ (wO (kD k) a1 n1 ++ wM (kD k) aM m)))))) (rest := []) C as3 (cL_oldWay_ (kL k) C.tr (kD k) rG rL g p1 p2 _ _ (wG (kD k) rG (aS 0) rV rN (aT 0) ++ wS (kD k) aS v) rfl _ _ (cX4_oldWay_ (kL k) C.tr (kD k) N rG rV rN (aT 0) aS v p1 p2 r hX) (fun rv w h => by
      obtain ⟨a, -, e, -⟩ := h
      exact ⟨_, e⟩) (fun X w h => by
      obtain ⟨t, ht, e⟩ := PX_in ok_oldWay hr X w h
      rw [List.mem_singleton.mp ht] at e
      exact e)) (fun ht => vx_cwSW 4 ht gL_law_L_oldWay rfl rfl rfl hsL_oldWay ⟨(Nat.le_of_ble_eq_true rfl), (Nat.le_of_ble_eq_true rfl)⟩) rfl rfl (Nat.le_of_ble_eq_true rfl) dL_law_1536 ⟨by show cs + 2 ≤ _; omega, by show sl + 12 ≤ _; omega⟩ (fun rv w1 hp => ?_)
  obtain ⟨j, g2, w2, rfl, rfl, hj, h0, hw⟩ := PH_out (pv := (fun b : Int32 => b)) (PW := (fun (_ : Int32) (w : va_W) => w = (wG (kD k) rG (aS 0) rV rN (aT 0) ++ wS (kD k) aS v))) (w0 := (wG (kD k) rG (aS 0) rV rN (aT 0) ++ wS (kD k) aS v)) ok_oldWay hr hp
  obtain ⟨rfl, hs⟩ : w2 = (wG (kD k) rG (aS 0) rV rN (aT 0) ++ wS (kD k) aS v) ∧ SM (q + 400) v z tx n0 n1 m2 := by
    rcases hw with ⟨rfl, hs⟩ | ⟨a, rfl, hs⟩
    · exact ⟨rfl, hs.mono (by omega)⟩
    · exact ⟨rfl, hs.mono (by omega)⟩
  refine g_Perm as3.symm ?_
  refine g_stack (st' := [.int j]) rfl ?_
  refine g_istore (pc := 1539) (lv' := [(5, .int j), (4, .int i), (3, .ref rL), (2, .ref (aM 0)), (1, .ref rG), (0, .ref b)]) C dL_law_1539 (by decide) rfl ?_
  refine g_aload_n (pc := 1541) (x := aM 0) C dL_law_1541 rfl ?_
  refine g_aload_n (pc := 1542) (x := b) C dL_law_1542 rfl ?_
  refine g_iload (pc := 1543) (x := i) C dL_law_1543 rfl ?_
  refine g_iconst (pc := 1545) (v := 1) C dL_law_1545 (by decide) ?_
  refine g_iadd (pc := 1546) C dL_law_1546 ?_
  refine g_xld (pc := 1547) C X h1 e1 dL_law_1547 ?_
  refine g_aload_n (pc := 1548) (x := b) C dL_law_1548 rfl ?_
  refine g_iload (pc := 1549) (x := i) C dL_law_1549 rfl ?_
  refine g_iconst (pc := 1551) (v := 2) C dL_law_1551 (by decide) ?_
  refine g_iadd (pc := 1552) C dL_law_1552 ?_
  refine g_xld (pc := 1553) C X h2 e2 dL_law_1553 ?_
  refine g_callV (pc := 1554) (wc := wM (kD k) aM m) (wr := (wL (kD k) rL g2 ++ (wG (kD k) rG (aS 0) rV rN (aT 0) ++ (wS (kD k) aS v ++ (wV (kD k) rV aV z ++ (wT (kD k) aT tx ++ (wN (kD k) rN (fN a0 a1 n0 n1) ++ (wO (kD k) a0 n0 ++ wO (kD k) a1 n1)))))))) C (pm0 (pm0 (pm0 (pm0 (pm0 (pm0 (pm0 pmL))))))) (gr_V (y := yX5_oldWay) (As := [.int p1, .int p2]) (rest := []) C (cX5_oldWay_ (kL k) C.tr (kD k) N aM m p1 p2 (m2, y) hY) (fun ht => cwV 2 ht gL_law_X5_oldWay rfl rfl rfl hdX5_oldWay ⟨(Nat.le_of_ble_eq_true rfl), (Nat.le_of_ble_eq_true rfl)⟩) 0 rfl rfl _ (rg_map _ _) (rg_nd _) rfl rfl (Nat.le_of_ble_eq_true rfl) dL_law_1554 ⟨by show cs + 2 + 0 ≤ _; omega, by show sl + 12 + 0 ≤ _; omega⟩) (fun rv w1 hp => ?_)
  obtain ⟨rfl, rfl⟩ := hp
  refine g_stack (st' := [.int y]) rfl ?_
  refine g_istore (pc := 1557) (lv' := [(6, .int y), (5, .int j), (4, .int i), (3, .ref rL), (2, .ref (aM 0)), (1, .ref rG), (0, .ref b)]) C dL_law_1557 (by decide) rfl ?_
  refine g_aload_n (pc := 1559) (x := aM 0) C dL_law_1559 rfl ?_
  refine g_callV (pc := 1560) (wc := wM (kD k) aM m2) (wr := (wL (kD k) rL g2 ++ (wG (kD k) rG (aS 0) rV rN (aT 0) ++ (wS (kD k) aS v ++ (wV (kD k) rV aV z ++ (wT (kD k) aT tx ++ (wN (kD k) rN (fN a0 a1 n0 n1) ++ (wO (kD k) a0 n0 ++ wO (kD k) a1 n1)))))))) C (List.Perm.refl _) (gr_V (y := yX5_thrown) (As := []) (rest := []) C (cX5_thrown_ (kL k) C.tr (kD k) N aM m2 (mThr m2) rfl) (fun ht => cwV 0 ht gL_law_X5_thrown rfl rfl rfl hdX5_thrown ⟨(Nat.le_of_ble_eq_true rfl), (Nat.le_of_ble_eq_true rfl)⟩) 0 rfl rfl _ (rg_map _ _) (rg_nd _) rfl rfl (Nat.le_of_ble_eq_true rfl) dL_law_1560 ⟨by show cs + 2 + 0 + 0 ≤ _; omega, by show sl + 12 + 0 + 0 ≤ _; omega⟩) (fun rv w1 hp => ?_)
  obtain ⟨rfl, rfl⟩ := hp
  refine g_stack (st' := [.int (mThr m2)]) rfl ?_
  refine g_iload (pc := 1563) (x := j) C dL_law_1563 rfl ?_
  refine g_icmpeqC (pc := 1565) (tgt := 1570) C hj dL_law_1565 (by decide) ?_
  have END : gG k (wM (kD k) aM m2 ++ (wL (kD k) rL g2 ++ (wG (kD k) rG (aS 0) rV rN (aT 0) ++ (wS (kD k) aS v ++ (wV (kD k) rV aV z ++ (wT (kD k) aT tx ++ (wN (kD k) rN (fN a0 a1 n0 n1) ++ (wO (kD k) a0 n0 ++ wO (kD k) a1 n1)))))))) [(6, .int y), (5, .int j), (4, .int i), (3, .ref rL), (2, .ref (aM 0)), (1, .ref rG), (0, .ref b)] (cs + 2 + 0 + 0) (sl + 12 + 0 + 0) 1587 [] := by
    refine g_goto (pc := 1587) (tgt := 1811) C dL_law_1587 (by decide) ?_
    refine g_lv [2, 3, 4, 5, 6] (lv' := lvW b rG rL aM i) rfl ?_
    refine g_widen (c2 := cs + 10) (s2 := sl + 163) (by omega) (by omega) ?_
    exact g_Perm ((pm0 (List.Perm.refl _)).trans (pmc ((pm0 (List.Perm.refl _)).trans (pmc ((pm0 (List.Perm.refl _)).trans (pmc ((pm0 (List.Perm.refl _)).trans (pmc ((pm0 (List.Perm.refl _)).trans (pmc ((pm0 (List.Perm.refl _)).trans (pmc ((pm0 (List.Perm.refl _)).trans (pmc pmL)))))))))))))) (K aV a0 a1 v z tx n0 n1 m2 g2 hs)
  refine g_iload (pc := 1570) (x := j) C dL_law_1570 rfl ?_
  refine g_ifneC (pc := 1572) (tgt := 1587) C dL_law_1572 (by decide) (fun _ => END) (fun hj0 => ?_)
  refine g_aload_n (pc := 1575) (x := rL) C dL_law_1575 rfl ?_
  refine g_iconst (pc := 1576) (v := 0) C dL_law_1576 (by decide) ?_
  refine g_lald (pc := 1577) (X := some ()) (r := ()) (n := 1) (f := g2) rfl C 10 rfl dL_law_1577 (fun _ => ?_)
  refine g_iload (pc := 1578) (x := y) C dL_law_1578 rfl ?_
  refine g_i2l (pc := 1580) C dL_law_1580 ?_
  refine g_lcmp0 (pc := 1581) C (h0 hj0) dL_law_1581 ?_
  exact g_ifeqC (pc := 1582) (tgt := 1587) C dL_law_1582 (by decide) (fun _ => END) (fun hz => absurd rfl hz)
theorem ok_nearest : okC [(1, 1)] csL_nearest := by decide +kernel
set_option maxRecDepth 100000 in
set_option maxHeartbeats 4000000 in
theorem op_nearest {k : Kt} {nm : String} (C : gC k cL_law 9 RL wsL_law room_1 nm) {b L : Nat} {xs : Nat → Int32} (X : LX k b L xs) {N : Nat} (hN0 : 2097152 ≤ N) {rG rV rN rL : Nat} {aS aT aM aV a0 a1 : Nat → Nat} {v : VS} {z : VV} {tx : VT} {n0 n1 : Option VS} {m : VM} {g : Nat → Int64} {q : Nat} (hq : q ≤ 800000) (h : SM q v z tx n0 n1 m) {i : Int32} (h1 : vp_in (i + 1) L) (h2 : vp_in (i + 2) L) {cs sl : Nat} (hcs : cs + 10 ≤ room_1.cells) (hsl : sl + 163 ≤ room_1.slots) (K : KK k b rG rV rN rL aS aT aM (q + 400) i (cs + 10) (sl + 163)) : gG k (wAll (kD k) rG rV rN rL aS aT aM aV a0 a1 v z tx n0 n1 m g) (lvW b rG rL aM i) cs sl 1590 [] := by
  obtain ⟨p1, e1⟩ : ∃ p1, xs (i + 1).toNatClampNeg = p1 := ⟨_, rfl⟩
  obtain ⟨p2, e2⟩ : ∃ p2, xs (i + 2).toNatClampNeg = p2 := ⟨_, rfl⟩
  unfold wAll lvW
  obtain ⟨r, m2, y, hX, hY, hr⟩ := (sim_nearest hN0 h p1).out
  refine g_aload_n (pc := 1590) (x := rG) C dL_law_1590 rfl ?_
  refine g_aload_n (pc := 1591) (x := b) C dL_law_1591 rfl ?_
  refine g_iload (pc := 1592) (x := i) C dL_law_1592 rfl ?_
  refine g_iconst (pc := 1594) (v := 1) C dL_law_1594 (by decide) ?_
  refine g_iadd (pc := 1595) C dL_law_1595 ?_
  refine g_xld (pc := 1596) C X h1 e1 dL_law_1596 ?_
  refine g_aload_n (pc := 1597) (x := rL) C dL_law_1597 rfl ?_
  refine g_callM (pc := 1598) (wr := (wV (kD k) rV aV z ++ (wT (kD k) aT tx ++ (wN (kD k) rN (fN a0 a1 n0 n1) ++ (wO (kD k) a0 n0 ++ (wO (kD k) a1 n1 ++ wM (kD k) aM m)))))) (rest := []) C as3 (cL_nearest_ (kL k) C.tr (kD k) rG rL g p1 _ _ (wG (kD k) rG (aS 0) rV rN (aT 0) ++ wS (kD k) aS v) rfl _ _ (cX4_nearest_ (kL k) C.tr (kD k) N rG rV rN (aT 0) aS v p1 r hX) (fun rv w h => by
      obtain ⟨a, -, e, -⟩ := h
      exact ⟨_, e⟩) (fun X w h => by
      obtain ⟨t, ht, e⟩ := PX_in ok_nearest hr X w h
      rw [List.mem_singleton.mp ht] at e
      exact e)) (fun ht => vx_cwSW 3 ht gL_law_L_nearest rfl rfl rfl hsL_nearest ⟨(Nat.le_of_ble_eq_true rfl), (Nat.le_of_ble_eq_true rfl)⟩) rfl rfl (Nat.le_of_ble_eq_true rfl) dL_law_1598 ⟨by show cs + 1 ≤ _; omega, by show sl + 6 ≤ _; omega⟩ (fun rv w1 hp => ?_)
  obtain ⟨j, g2, w2, rfl, rfl, hj, h0, hw⟩ := PH_out (pv := (fun b : Int32 => b)) (PW := (fun (_ : Int32) (w : va_W) => w = (wG (kD k) rG (aS 0) rV rN (aT 0) ++ wS (kD k) aS v))) (w0 := (wG (kD k) rG (aS 0) rV rN (aT 0) ++ wS (kD k) aS v)) ok_nearest hr hp
  obtain ⟨rfl, hs⟩ : w2 = (wG (kD k) rG (aS 0) rV rN (aT 0) ++ wS (kD k) aS v) ∧ SM (q + 400) v z tx n0 n1 m2 := by
    rcases hw with ⟨rfl, hs⟩ | ⟨a, rfl, hs⟩
    · exact ⟨rfl, hs.mono (by omega)⟩
    · exact ⟨rfl, hs.mono (by omega)⟩
  refine g_Perm as3.symm ?_
  refine g_stack (st' := [.int j]) rfl ?_
  refine g_istore (pc := 1601) (lv' := [(5, .int j), (4, .int i), (3, .ref rL), (2, .ref (aM 0)), (1, .ref rG), (0, .ref b)]) C dL_law_1601 (by decide) rfl ?_
  refine g_aload_n (pc := 1603) (x := aM 0) C dL_law_1603 rfl ?_
  refine g_aload_n (pc := 1604) (x := b) C dL_law_1604 rfl ?_
  refine g_iload (pc := 1605) (x := i) C dL_law_1605 rfl ?_
  refine g_iconst (pc := 1607) (v := 1) C dL_law_1607 (by decide) ?_
  refine g_iadd (pc := 1608) C dL_law_1608 ?_
  refine g_xld (pc := 1609) C X h1 e1 dL_law_1609 ?_
  refine g_callV (pc := 1610) (wc := wM (kD k) aM m) (wr := (wL (kD k) rL g2 ++ (wG (kD k) rG (aS 0) rV rN (aT 0) ++ (wS (kD k) aS v ++ (wV (kD k) rV aV z ++ (wT (kD k) aT tx ++ (wN (kD k) rN (fN a0 a1 n0 n1) ++ (wO (kD k) a0 n0 ++ wO (kD k) a1 n1)))))))) C (pm0 (pm0 (pm0 (pm0 (pm0 (pm0 (pm0 pmL))))))) (gr_V (y := yX5_nearest) (As := [.int p1]) (rest := []) C (cX5_nearest_ (kL k) C.tr (kD k) N aM m p1 (m2, y) hY) (fun ht => cwV 1 ht gL_law_X5_nearest rfl rfl rfl hdX5_nearest ⟨(Nat.le_of_ble_eq_true rfl), (Nat.le_of_ble_eq_true rfl)⟩) 0 rfl rfl _ (rg_map _ _) (rg_nd _) rfl rfl (Nat.le_of_ble_eq_true rfl) dL_law_1610 ⟨by show cs + 1 + 0 ≤ _; omega, by show sl + 6 + 0 ≤ _; omega⟩) (fun rv w1 hp => ?_)
  obtain ⟨rfl, rfl⟩ := hp
  refine g_stack (st' := [.int y]) rfl ?_
  refine g_istore (pc := 1613) (lv' := [(6, .int y), (5, .int j), (4, .int i), (3, .ref rL), (2, .ref (aM 0)), (1, .ref rG), (0, .ref b)]) C dL_law_1613 (by decide) rfl ?_
  refine g_aload_n (pc := 1615) (x := aM 0) C dL_law_1615 rfl ?_
  refine g_callV (pc := 1616) (wc := wM (kD k) aM m2) (wr := (wL (kD k) rL g2 ++ (wG (kD k) rG (aS 0) rV rN (aT 0) ++ (wS (kD k) aS v ++ (wV (kD k) rV aV z ++ (wT (kD k) aT tx ++ (wN (kD k) rN (fN a0 a1 n0 n1) ++ (wO (kD k) a0 n0 ++ wO (kD k) a1 n1)))))))) C (List.Perm.refl _) (gr_V (y := yX5_thrown) (As := []) (rest := []) C (cX5_thrown_ (kL k) C.tr (kD k) N aM m2 (mThr m2) rfl) (fun ht => cwV 0 ht gL_law_X5_thrown rfl rfl rfl hdX5_thrown ⟨(Nat.le_of_ble_eq_true rfl), (Nat.le_of_ble_eq_true rfl)⟩) 0 rfl rfl _ (rg_map _ _) (rg_nd _) rfl rfl (Nat.le_of_ble_eq_true rfl) dL_law_1616 ⟨by show cs + 1 + 0 + 0 ≤ _; omega, by show sl + 6 + 0 + 0 ≤ _; omega⟩) (fun rv w1 hp => ?_)
  obtain ⟨rfl, rfl⟩ := hp
  refine g_stack (st' := [.int (mThr m2)]) rfl ?_
  refine g_iload (pc := 1619) (x := j) C dL_law_1619 rfl ?_
  refine g_icmpeqC (pc := 1621) (tgt := 1626) C hj dL_law_1621 (by decide) ?_
  have END : gG k (wM (kD k) aM m2 ++ (wL (kD k) rL g2 ++ (wG (kD k) rG (aS 0) rV rN (aT 0) ++ (wS (kD k) aS v ++ (wV (kD k) rV aV z ++ (wT (kD k) aT tx ++ (wN (kD k) rN (fN a0 a1 n0 n1) ++ (wO (kD k) a0 n0 ++ wO (kD k) a1 n1)))))))) [(6, .int y), (5, .int j), (4, .int i), (3, .ref rL), (2, .ref (aM 0)), (1, .ref rG), (0, .ref b)] (cs + 1 + 0 + 0) (sl + 6 + 0 + 0) 1643 [] := by
    refine g_goto (pc := 1643) (tgt := 1811) C dL_law_1643 (by decide) ?_
    refine g_lv [2, 3, 4, 5, 6] (lv' := lvW b rG rL aM i) rfl ?_
    refine g_widen (c2 := cs + 10) (s2 := sl + 163) (by omega) (by omega) ?_
    exact g_Perm ((pm0 (List.Perm.refl _)).trans (pmc ((pm0 (List.Perm.refl _)).trans (pmc ((pm0 (List.Perm.refl _)).trans (pmc ((pm0 (List.Perm.refl _)).trans (pmc ((pm0 (List.Perm.refl _)).trans (pmc ((pm0 (List.Perm.refl _)).trans (pmc ((pm0 (List.Perm.refl _)).trans (pmc pmL)))))))))))))) (K aV a0 a1 v z tx n0 n1 m2 g2 hs)
  refine g_iload (pc := 1626) (x := j) C dL_law_1626 rfl ?_
  refine g_ifneC (pc := 1628) (tgt := 1643) C dL_law_1628 (by decide) (fun _ => END) (fun hj0 => ?_)
  refine g_aload_n (pc := 1631) (x := rL) C dL_law_1631 rfl ?_
  refine g_iconst (pc := 1632) (v := 0) C dL_law_1632 (by decide) ?_
  refine g_lald (pc := 1633) (X := some ()) (r := ()) (n := 1) (f := g2) rfl C 10 rfl dL_law_1633 (fun _ => ?_)
  refine g_iload (pc := 1634) (x := y) C dL_law_1634 rfl ?_
  refine g_i2l (pc := 1636) C dL_law_1636 ?_
  refine g_lcmp0 (pc := 1637) C (h0 hj0) dL_law_1637 ?_
  exact g_ifeqC (pc := 1638) (tgt := 1643) C dL_law_1638 (by decide) (fun _ => END) (fun hz => absurd rfl hz)
theorem ok_coolIn : okC [(3, 1)] csL_coolIn := by decide +kernel
set_option maxRecDepth 100000 in
set_option maxHeartbeats 4000000 in
theorem op_coolIn {k : Kt} {nm : String} (C : gC k cL_law 9 RL wsL_law room_1 nm) {b L : Nat} {xs : Nat → Int32} (X : LX k b L xs) {N : Nat} (hN0 : 2097152 ≤ N) {rG rV rN rL : Nat} {aS aT aM aV a0 a1 : Nat → Nat} {v : VS} {z : VV} {tx : VT} {n0 n1 : Option VS} {m : VM} {g : Nat → Int64} {q : Nat} (hq : q ≤ 800000) (h : SM q v z tx n0 n1 m) {i : Int32} (h1 : vp_in (i + 1) L) (h2 : vp_in (i + 2) L) {cs sl : Nat} (hcs : cs + 10 ≤ room_1.cells) (hsl : sl + 163 ≤ room_1.slots) (K : KK k b rG rV rN rL aS aT aM (q + 400) i (cs + 10) (sl + 163)) : gG k (wAll (kD k) rG rV rN rL aS aT aM aV a0 a1 v z tx n0 n1 m g) (lvW b rG rL aM i) cs sl 1646 [] := by
  obtain ⟨p1, e1⟩ : ∃ p1, xs (i + 1).toNatClampNeg = p1 := ⟨_, rfl⟩
  obtain ⟨p2, e2⟩ : ∃ p2, xs (i + 2).toNatClampNeg = p2 := ⟨_, rfl⟩
  unfold wAll lvW
  obtain ⟨r, m2, y, hX, hY, hr⟩ := (sim_coolIn hN0 h p1).out
  refine g_aload_n (pc := 1646) (x := rG) C dL_law_1646 rfl ?_
  refine g_aload_n (pc := 1647) (x := b) C dL_law_1647 rfl ?_
  refine g_iload (pc := 1648) (x := i) C dL_law_1648 rfl ?_
  refine g_iconst (pc := 1650) (v := 1) C dL_law_1650 (by decide) ?_
  refine g_iadd (pc := 1651) C dL_law_1651 ?_
  refine g_xld (pc := 1652) C X h1 e1 dL_law_1652 ?_
  refine g_aload_n (pc := 1653) (x := rL) C dL_law_1653 rfl ?_
  refine g_callM (pc := 1654) (wr := (wV (kD k) rV aV z ++ (wT (kD k) aT tx ++ (wN (kD k) rN (fN a0 a1 n0 n1) ++ (wO (kD k) a0 n0 ++ (wO (kD k) a1 n1 ++ wM (kD k) aM m)))))) (rest := []) C as3 (cL_coolIn_ (kL k) C.tr (kD k) rG rL g p1 _ _ (wG (kD k) rG (aS 0) rV rN (aT 0) ++ wS (kD k) aS v) rfl _ _ (cX4_coolIn_ (kL k) C.tr (kD k) N rG rV rN (aT 0) aS v p1 r hX) (fun rv w h => by
      obtain ⟨a, -, e, -⟩ := h
      exact ⟨_, e⟩) (fun X w h => by
      obtain ⟨t, ht, e⟩ := PX_in ok_coolIn hr X w h
      rw [List.mem_singleton.mp ht] at e
      exact e)) (fun ht => vx_cwSW 3 ht gL_law_L_coolIn rfl rfl rfl hsL_coolIn ⟨(Nat.le_of_ble_eq_true rfl), (Nat.le_of_ble_eq_true rfl)⟩) rfl rfl (Nat.le_of_ble_eq_true rfl) dL_law_1654 ⟨by show cs + 1 ≤ _; omega, by show sl + 6 ≤ _; omega⟩ (fun rv w1 hp => ?_)
  obtain ⟨j, g2, w2, rfl, rfl, hj, h0, hw⟩ := PH_out (pv := (fun b : Int32 => b)) (PW := (fun (_ : Int32) (w : va_W) => w = (wG (kD k) rG (aS 0) rV rN (aT 0) ++ wS (kD k) aS v))) (w0 := (wG (kD k) rG (aS 0) rV rN (aT 0) ++ wS (kD k) aS v)) ok_coolIn hr hp
  obtain ⟨rfl, hs⟩ : w2 = (wG (kD k) rG (aS 0) rV rN (aT 0) ++ wS (kD k) aS v) ∧ SM (q + 400) v z tx n0 n1 m2 := by
    rcases hw with ⟨rfl, hs⟩ | ⟨a, rfl, hs⟩
    · exact ⟨rfl, hs.mono (by omega)⟩
    · exact ⟨rfl, hs.mono (by omega)⟩
  refine g_Perm as3.symm ?_
  refine g_stack (st' := [.int j]) rfl ?_
  refine g_istore (pc := 1657) (lv' := [(5, .int j), (4, .int i), (3, .ref rL), (2, .ref (aM 0)), (1, .ref rG), (0, .ref b)]) C dL_law_1657 (by decide) rfl ?_
  refine g_aload_n (pc := 1659) (x := aM 0) C dL_law_1659 rfl ?_
  refine g_aload_n (pc := 1660) (x := b) C dL_law_1660 rfl ?_
  refine g_iload (pc := 1661) (x := i) C dL_law_1661 rfl ?_
  refine g_iconst (pc := 1663) (v := 1) C dL_law_1663 (by decide) ?_
  refine g_iadd (pc := 1664) C dL_law_1664 ?_
  refine g_xld (pc := 1665) C X h1 e1 dL_law_1665 ?_
  refine g_callV (pc := 1666) (wc := wM (kD k) aM m) (wr := (wL (kD k) rL g2 ++ (wG (kD k) rG (aS 0) rV rN (aT 0) ++ (wS (kD k) aS v ++ (wV (kD k) rV aV z ++ (wT (kD k) aT tx ++ (wN (kD k) rN (fN a0 a1 n0 n1) ++ (wO (kD k) a0 n0 ++ wO (kD k) a1 n1)))))))) C (pm0 (pm0 (pm0 (pm0 (pm0 (pm0 (pm0 pmL))))))) (gr_V (y := yX5_coolIn) (As := [.int p1]) (rest := []) C (cX5_coolIn_ (kL k) C.tr (kD k) N aM m p1 (m2, y) hY) (fun ht => cwV 1 ht gL_law_X5_coolIn rfl rfl rfl hdX5_coolIn ⟨(Nat.le_of_ble_eq_true rfl), (Nat.le_of_ble_eq_true rfl)⟩) 0 rfl rfl _ (rg_map _ _) (rg_nd _) rfl rfl (Nat.le_of_ble_eq_true rfl) dL_law_1666 ⟨by show cs + 1 + 0 ≤ _; omega, by show sl + 6 + 0 ≤ _; omega⟩) (fun rv w1 hp => ?_)
  obtain ⟨rfl, rfl⟩ := hp
  refine g_stack (st' := [.int y]) rfl ?_
  refine g_istore (pc := 1669) (lv' := [(6, .int y), (5, .int j), (4, .int i), (3, .ref rL), (2, .ref (aM 0)), (1, .ref rG), (0, .ref b)]) C dL_law_1669 (by decide) rfl ?_
  refine g_aload_n (pc := 1671) (x := aM 0) C dL_law_1671 rfl ?_
  refine g_callV (pc := 1672) (wc := wM (kD k) aM m2) (wr := (wL (kD k) rL g2 ++ (wG (kD k) rG (aS 0) rV rN (aT 0) ++ (wS (kD k) aS v ++ (wV (kD k) rV aV z ++ (wT (kD k) aT tx ++ (wN (kD k) rN (fN a0 a1 n0 n1) ++ (wO (kD k) a0 n0 ++ wO (kD k) a1 n1)))))))) C (List.Perm.refl _) (gr_V (y := yX5_thrown) (As := []) (rest := []) C (cX5_thrown_ (kL k) C.tr (kD k) N aM m2 (mThr m2) rfl) (fun ht => cwV 0 ht gL_law_X5_thrown rfl rfl rfl hdX5_thrown ⟨(Nat.le_of_ble_eq_true rfl), (Nat.le_of_ble_eq_true rfl)⟩) 0 rfl rfl _ (rg_map _ _) (rg_nd _) rfl rfl (Nat.le_of_ble_eq_true rfl) dL_law_1672 ⟨by show cs + 1 + 0 + 0 ≤ _; omega, by show sl + 6 + 0 + 0 ≤ _; omega⟩) (fun rv w1 hp => ?_)
  obtain ⟨rfl, rfl⟩ := hp
  refine g_stack (st' := [.int (mThr m2)]) rfl ?_
  refine g_iload (pc := 1675) (x := j) C dL_law_1675 rfl ?_
  refine g_icmpeqC (pc := 1677) (tgt := 1682) C hj dL_law_1677 (by decide) ?_
  have END : gG k (wM (kD k) aM m2 ++ (wL (kD k) rL g2 ++ (wG (kD k) rG (aS 0) rV rN (aT 0) ++ (wS (kD k) aS v ++ (wV (kD k) rV aV z ++ (wT (kD k) aT tx ++ (wN (kD k) rN (fN a0 a1 n0 n1) ++ (wO (kD k) a0 n0 ++ wO (kD k) a1 n1)))))))) [(6, .int y), (5, .int j), (4, .int i), (3, .ref rL), (2, .ref (aM 0)), (1, .ref rG), (0, .ref b)] (cs + 1 + 0 + 0) (sl + 6 + 0 + 0) 1699 [] := by
    refine g_goto (pc := 1699) (tgt := 1811) C dL_law_1699 (by decide) ?_
    refine g_lv [2, 3, 4, 5, 6] (lv' := lvW b rG rL aM i) rfl ?_
    refine g_widen (c2 := cs + 10) (s2 := sl + 163) (by omega) (by omega) ?_
    exact g_Perm ((pm0 (List.Perm.refl _)).trans (pmc ((pm0 (List.Perm.refl _)).trans (pmc ((pm0 (List.Perm.refl _)).trans (pmc ((pm0 (List.Perm.refl _)).trans (pmc ((pm0 (List.Perm.refl _)).trans (pmc ((pm0 (List.Perm.refl _)).trans (pmc ((pm0 (List.Perm.refl _)).trans (pmc pmL)))))))))))))) (K aV a0 a1 v z tx n0 n1 m2 g2 hs)
  refine g_iload (pc := 1682) (x := j) C dL_law_1682 rfl ?_
  refine g_ifneC (pc := 1684) (tgt := 1699) C dL_law_1684 (by decide) (fun _ => END) (fun hj0 => ?_)
  refine g_aload_n (pc := 1687) (x := rL) C dL_law_1687 rfl ?_
  refine g_iconst (pc := 1688) (v := 0) C dL_law_1688 (by decide) ?_
  refine g_lald (pc := 1689) (X := some ()) (r := ()) (n := 1) (f := g2) rfl C 10 rfl dL_law_1689 (fun _ => ?_)
  refine g_iload (pc := 1690) (x := y) C dL_law_1690 rfl ?_
  refine g_i2l (pc := 1692) C dL_law_1692 ?_
  refine g_lcmp0 (pc := 1693) C (h0 hj0) dL_law_1693 ?_
  exact g_ifeqC (pc := 1694) (tgt := 1699) C dL_law_1694 (by decide) (fun _ => END) (fun hz => absurd rfl hz)
theorem ok_lengthIn : okC [(3, 1), (1, 2)] csL_lengthIn := by decide +kernel
set_option maxRecDepth 100000 in
set_option maxHeartbeats 4000000 in
theorem op_lengthIn {k : Kt} {nm : String} (C : gC k cL_law 9 RL wsL_law room_1 nm) {b L : Nat} {xs : Nat → Int32} (X : LX k b L xs) {N : Nat} (hN0 : 2097152 ≤ N) {rG rV rN rL : Nat} {aS aT aM aV a0 a1 : Nat → Nat} {v : VS} {z : VV} {tx : VT} {n0 n1 : Option VS} {m : VM} {g : Nat → Int64} {q : Nat} (hq : q ≤ 800000) (h : SM q v z tx n0 n1 m) {i : Int32} (h1 : vp_in (i + 1) L) (h2 : vp_in (i + 2) L) {cs sl : Nat} (hcs : cs + 10 ≤ room_1.cells) (hsl : sl + 163 ≤ room_1.slots) (K : KK k b rG rV rN rL aS aT aM (q + 400) i (cs + 10) (sl + 163)) : gG k (wAll (kD k) rG rV rN rL aS aT aM aV a0 a1 v z tx n0 n1 m g) (lvW b rG rL aM i) cs sl 1702 [] := by
  obtain ⟨p1, e1⟩ : ∃ p1, xs (i + 1).toNatClampNeg = p1 := ⟨_, rfl⟩
  obtain ⟨p2, e2⟩ : ∃ p2, xs (i + 2).toNatClampNeg = p2 := ⟨_, rfl⟩
  unfold wAll lvW
  obtain ⟨r, m2, y, hX, hY, hr⟩ := (sim_lengthIn hN0 h p1 p2).out
  refine g_aload_n (pc := 1702) (x := rG) C dL_law_1702 rfl ?_
  refine g_aload_n (pc := 1703) (x := b) C dL_law_1703 rfl ?_
  refine g_iload (pc := 1704) (x := i) C dL_law_1704 rfl ?_
  refine g_iconst (pc := 1706) (v := 1) C dL_law_1706 (by decide) ?_
  refine g_iadd (pc := 1707) C dL_law_1707 ?_
  refine g_xld (pc := 1708) C X h1 e1 dL_law_1708 ?_
  refine g_aload_n (pc := 1709) (x := b) C dL_law_1709 rfl ?_
  refine g_iload (pc := 1710) (x := i) C dL_law_1710 rfl ?_
  refine g_iconst (pc := 1712) (v := 2) C dL_law_1712 (by decide) ?_
  refine g_iadd (pc := 1713) C dL_law_1713 ?_
  refine g_xld (pc := 1714) C X h2 e2 dL_law_1714 ?_
  refine g_aload_n (pc := 1715) (x := rL) C dL_law_1715 rfl ?_
  refine g_callM (pc := 1716) (wr := (wV (kD k) rV aV z ++ (wT (kD k) aT tx ++ (wN (kD k) rN (fN a0 a1 n0 n1) ++ (wO (kD k) a0 n0 ++ (wO (kD k) a1 n1 ++ wM (kD k) aM m)))))) (rest := []) C as3 (cL_lengthIn_ (kL k) C.tr (kD k) rG rL g p1 p2 _ _ (wG (kD k) rG (aS 0) rV rN (aT 0) ++ wS (kD k) aS v) rfl _ _ (cX4_lengthIn_ (kL k) C.tr (kD k) N rG rV rN (aT 0) aS v p1 p2 r hX) (fun rv w h => by
      obtain ⟨a, -, e, -⟩ := h
      exact ⟨_, e⟩) (fun X w h => by
      obtain ⟨t, ht, e⟩ := PX_in ok_lengthIn hr X w h
      rcases List.mem_cons.mp ht with rfl | ht
      · exact .inl e
      · rw [List.mem_singleton.mp ht] at e
        exact .inr e)) (fun ht => vx_cwSW 4 ht gL_law_L_lengthIn rfl rfl rfl hsL_lengthIn ⟨(Nat.le_of_ble_eq_true rfl), (Nat.le_of_ble_eq_true rfl)⟩) rfl rfl (Nat.le_of_ble_eq_true rfl) dL_law_1716 ⟨by show cs + 2 ≤ _; omega, by show sl + 12 ≤ _; omega⟩ (fun rv w1 hp => ?_)
  obtain ⟨j, g2, w2, rfl, rfl, hj, h0, hw⟩ := PH_out (pv := (fun b : Int32 => b)) (PW := (fun (_ : Int32) (w : va_W) => w = (wG (kD k) rG (aS 0) rV rN (aT 0) ++ wS (kD k) aS v))) (w0 := (wG (kD k) rG (aS 0) rV rN (aT 0) ++ wS (kD k) aS v)) ok_lengthIn hr hp
  obtain ⟨rfl, hs⟩ : w2 = (wG (kD k) rG (aS 0) rV rN (aT 0) ++ wS (kD k) aS v) ∧ SM (q + 400) v z tx n0 n1 m2 := by
    rcases hw with ⟨rfl, hs⟩ | ⟨a, rfl, hs⟩
    · exact ⟨rfl, hs.mono (by omega)⟩
    · exact ⟨rfl, hs.mono (by omega)⟩
  refine g_Perm as3.symm ?_
  refine g_stack (st' := [.int j]) rfl ?_
  refine g_istore (pc := 1719) (lv' := [(5, .int j), (4, .int i), (3, .ref rL), (2, .ref (aM 0)), (1, .ref rG), (0, .ref b)]) C dL_law_1719 (by decide) rfl ?_
  refine g_aload_n (pc := 1721) (x := aM 0) C dL_law_1721 rfl ?_
  refine g_aload_n (pc := 1722) (x := b) C dL_law_1722 rfl ?_
  refine g_iload (pc := 1723) (x := i) C dL_law_1723 rfl ?_
  refine g_iconst (pc := 1725) (v := 1) C dL_law_1725 (by decide) ?_
  refine g_iadd (pc := 1726) C dL_law_1726 ?_
  refine g_xld (pc := 1727) C X h1 e1 dL_law_1727 ?_
  refine g_aload_n (pc := 1728) (x := b) C dL_law_1728 rfl ?_
  refine g_iload (pc := 1729) (x := i) C dL_law_1729 rfl ?_
  refine g_iconst (pc := 1731) (v := 2) C dL_law_1731 (by decide) ?_
  refine g_iadd (pc := 1732) C dL_law_1732 ?_
  refine g_xld (pc := 1733) C X h2 e2 dL_law_1733 ?_
  refine g_callV (pc := 1734) (wc := wM (kD k) aM m) (wr := (wL (kD k) rL g2 ++ (wG (kD k) rG (aS 0) rV rN (aT 0) ++ (wS (kD k) aS v ++ (wV (kD k) rV aV z ++ (wT (kD k) aT tx ++ (wN (kD k) rN (fN a0 a1 n0 n1) ++ (wO (kD k) a0 n0 ++ wO (kD k) a1 n1)))))))) C (pm0 (pm0 (pm0 (pm0 (pm0 (pm0 (pm0 pmL))))))) (gr_V (y := yX5_lengthIn) (As := [.int p1, .int p2]) (rest := []) C (cX5_lengthIn_ (kL k) C.tr (kD k) N aM m p1 p2 (m2, y) hY) (fun ht => cwV 2 ht gL_law_X5_lengthIn rfl rfl rfl hdX5_lengthIn ⟨(Nat.le_of_ble_eq_true rfl), (Nat.le_of_ble_eq_true rfl)⟩) 0 rfl rfl _ (rg_map _ _) (rg_nd _) rfl rfl (Nat.le_of_ble_eq_true rfl) dL_law_1734 ⟨by show cs + 2 + 0 ≤ _; omega, by show sl + 12 + 0 ≤ _; omega⟩) (fun rv w1 hp => ?_)
  obtain ⟨rfl, rfl⟩ := hp
  refine g_stack (st' := [.int y]) rfl ?_
  refine g_istore (pc := 1737) (lv' := [(6, .int y), (5, .int j), (4, .int i), (3, .ref rL), (2, .ref (aM 0)), (1, .ref rG), (0, .ref b)]) C dL_law_1737 (by decide) rfl ?_
  refine g_aload_n (pc := 1739) (x := aM 0) C dL_law_1739 rfl ?_
  refine g_callV (pc := 1740) (wc := wM (kD k) aM m2) (wr := (wL (kD k) rL g2 ++ (wG (kD k) rG (aS 0) rV rN (aT 0) ++ (wS (kD k) aS v ++ (wV (kD k) rV aV z ++ (wT (kD k) aT tx ++ (wN (kD k) rN (fN a0 a1 n0 n1) ++ (wO (kD k) a0 n0 ++ wO (kD k) a1 n1)))))))) C (List.Perm.refl _) (gr_V (y := yX5_thrown) (As := []) (rest := []) C (cX5_thrown_ (kL k) C.tr (kD k) N aM m2 (mThr m2) rfl) (fun ht => cwV 0 ht gL_law_X5_thrown rfl rfl rfl hdX5_thrown ⟨(Nat.le_of_ble_eq_true rfl), (Nat.le_of_ble_eq_true rfl)⟩) 0 rfl rfl _ (rg_map _ _) (rg_nd _) rfl rfl (Nat.le_of_ble_eq_true rfl) dL_law_1740 ⟨by show cs + 2 + 0 + 0 ≤ _; omega, by show sl + 12 + 0 + 0 ≤ _; omega⟩) (fun rv w1 hp => ?_)
  obtain ⟨rfl, rfl⟩ := hp
  refine g_stack (st' := [.int (mThr m2)]) rfl ?_
  refine g_iload (pc := 1743) (x := j) C dL_law_1743 rfl ?_
  refine g_icmpeqC (pc := 1745) (tgt := 1750) C hj dL_law_1745 (by decide) ?_
  have END : gG k (wM (kD k) aM m2 ++ (wL (kD k) rL g2 ++ (wG (kD k) rG (aS 0) rV rN (aT 0) ++ (wS (kD k) aS v ++ (wV (kD k) rV aV z ++ (wT (kD k) aT tx ++ (wN (kD k) rN (fN a0 a1 n0 n1) ++ (wO (kD k) a0 n0 ++ wO (kD k) a1 n1)))))))) [(6, .int y), (5, .int j), (4, .int i), (3, .ref rL), (2, .ref (aM 0)), (1, .ref rG), (0, .ref b)] (cs + 2 + 0 + 0) (sl + 12 + 0 + 0) 1767 [] := by
    refine g_goto (pc := 1767) (tgt := 1811) C dL_law_1767 (by decide) ?_
    refine g_lv [2, 3, 4, 5, 6] (lv' := lvW b rG rL aM i) rfl ?_
    refine g_widen (c2 := cs + 10) (s2 := sl + 163) (by omega) (by omega) ?_
    exact g_Perm ((pm0 (List.Perm.refl _)).trans (pmc ((pm0 (List.Perm.refl _)).trans (pmc ((pm0 (List.Perm.refl _)).trans (pmc ((pm0 (List.Perm.refl _)).trans (pmc ((pm0 (List.Perm.refl _)).trans (pmc ((pm0 (List.Perm.refl _)).trans (pmc ((pm0 (List.Perm.refl _)).trans (pmc pmL)))))))))))))) (K aV a0 a1 v z tx n0 n1 m2 g2 hs)
  refine g_iload (pc := 1750) (x := j) C dL_law_1750 rfl ?_
  refine g_ifneC (pc := 1752) (tgt := 1767) C dL_law_1752 (by decide) (fun _ => END) (fun hj0 => ?_)
  refine g_aload_n (pc := 1755) (x := rL) C dL_law_1755 rfl ?_
  refine g_iconst (pc := 1756) (v := 0) C dL_law_1756 (by decide) ?_
  refine g_lald (pc := 1757) (X := some ()) (r := ()) (n := 1) (f := g2) rfl C 10 rfl dL_law_1757 (fun _ => ?_)
  refine g_iload (pc := 1758) (x := y) C dL_law_1758 rfl ?_
  refine g_i2l (pc := 1760) C dL_law_1760 ?_
  refine g_lcmp0 (pc := 1761) C (h0 hj0) dL_law_1761 ?_
  exact g_ifeqC (pc := 1762) (tgt := 1767) C dL_law_1762 (by decide) (fun _ => END) (fun hz => absurd rfl hz)
