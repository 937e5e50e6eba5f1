/-! one call of the law's turn, on the class and on the law's case -/
section AX
variable {N B q : Nat} {v : VS} {z : VV} {tx : VT} {gl ge gw gh gt gn gp : Nat → Int32}
theorem cal_law (x : Int32) : (if (-900 : Int32) ≤ x then some x else some (-900)) = some (jmax x (-900)) := by
  unfold jmax
  by_cases c : (-900 : Int32) ≤ x
  · rw [if_pos c, if_neg (Int32.not_lt.mpr c)]
  · rw [if_neg c, if_pos (Int32.not_le.mp c)]
theorem LI_cal (h : LI B q v gl ge gw gh gt gn gp) (hq : q ≤ 1000000000) {b : Nat} (hb : b < B) : LI B q (calS v b) gl (upd ge b (jmax (err v b) (-900))) (upd gw b 0) gh gt gn gp :=
  ⟨⟨h.1.1, h.1.2.1, h.1.2.2.1, fun x hx => ⟨h.l hx, upd_in (fun _ => h.e hx) rfl, upd_in (fun _ => h.w hx) rfl, h.h hx, h.t hx⟩⟩, h.2.1, h.2.2.1, h.2.2.2.cal hq hb⟩
theorem LI_hot (h : LI B q v gl ge gw gh gt gn gp) {b : Nat} (hb : b < B) {p : Int32} (h2 : 0 ≤ p.toInt ∧ p.toInt ≤ 1000) : LI B q (uH v (upd (sH v) b (hot (sH v b) p))) gl ge gw (upd gh b (hot (sH v b) p)) gt gn gp :=
  ⟨⟨h.1.1, h.1.2.1, h.1.2.2.1, fun x hx => ⟨h.l hx, h.e hx, h.w hx, upd_in (fun _ => h.h hx) rfl, h.t hx⟩⟩, h.2.1, h.2.2.1, h.2.2.2.hot hb h2⟩
theorem hold_law (x y : Int32) : (if x + y ≤ (1000 : Int32) then some (x + y) else some 1000) = some (hot x y) := by
  unfold hot jmin
  by_cases c : x + y ≤ (1000 : Int32)
  · rw [if_pos c, if_neg (Int32.not_lt.mpr c)]
  · rw [if_neg c, if_pos (Int32.not_le.mp c)]
theorem LI_rest (h : LI B q v gl ge gw gh gt gn gp) (p : Nat) : LI B q (uM (rsH v p B) (sM v + nI p)) gl ge gw (fa_fill (fun b => nI (coK p (hN v b))) gh B) gt (upd gn 4 (gn 4 + nI p)) gp :=
  ⟨⟨⟨h.le, h.b, (pk_un (by decide)).trans h.n8, h.fk⟩, fun j hj => (pk_un (by omega)).trans (h.1.2.1 j hj), ⟨pk_us.trans (by rw [h.n4]; rfl), (pk_un (by decide)).trans h.n5, (pk_un (by decide)).trans h.n6, (pk_un (by decide)).trans h.n7⟩, fun x hx => ⟨h.l hx, h.e hx, h.w hx, (fa_fill_in hx).trans (rsH_in hx).symm, h.t hx⟩⟩, h.2.1, h.2.2.1, h.2.2.2.rest p _⟩
theorem LI_set (h : LI B q v gl ge gw gh gt gn gp) {j : Nat} (hj : j < 4) {x : Int32} (h0 : 0 ≤ x) (hx : x ≤ stM j) : LI B q (uS v (upd (sS v) j x)) gl ge gw gh gt (upd gn j x) gp :=
  ⟨⟨⟨h.le, h.b, (pk_un (by omega)).trans h.n8, h.fk⟩, fun i hi => upd_in (fun _ => h.1.2.1 i hi) rfl, ⟨(pk_un (by omega)).trans h.n4, (pk_un (by omega)).trans h.n5, (pk_un (by omega)).trans h.n6, (pk_un (by omega)).trans h.n7⟩, h.1.2.2.2⟩, h.2.1, h.2.2.1, set_bd h.2.2.2 hj h0 hx⟩
theorem L_rest (hN0 : 2097152 ≤ N) (h : LI B q v gl ge gw gh gt gn gp) {p : Nat} (hp : p ≤ 1000) : lL_acts_322 N v tx z gl ge gw gt gn gp (nI p) N gh 0 0 = some (fa_fill (fun b => nI (coK p (hN v b))) gh B, rng (fun i a => jmax a (nI (coK p (hN v i)))) B 0) := by
  have hl := h.le
  have h1 := for_seq (B := B) (fun n (a : (Nat → Int32) × Int32) i => lL_acts_322 N v tx z gl ge gw gt gn gp (nI p) n a.1 a.2 i) (fun i => (fa_fill (fun b => nI (coK p (hN v b))) gh i, rng (fun i a => jmax a (nI (coK p (hN v i)))) i 0)) (fa_fill (fun b => nI (coK p (hN v b))) gh B, rng (fun i a => jmax a (nI (coK p (hN v i)))) B 0)
    (fun n => by
      show lL_acts_322 N v tx z gl ge gw gt gn gp (nI p) (n + 1) _ _ (nI B) = _
      rw [lL_acts_322, cn8, cl8, h.n8, if_pos (Int32.le_refl _)])
    (fun n i hi => by
      show lL_acts_322 N v tx z gl ge gw gt gn gp (nI p) (n + 1) (fa_fill (fun b => nI (coK p (hN v b))) gh i) (rng (fun i a => jmax a (nI (coK p (hN v i)))) i 0) (nI i) = lL_acts_322 N v tx z gl ge gw gt gn gp (nI p) n (fa_fill (fun b => nI (coK p (hN v b))) gh (i + 1)) (jmax (rng (fun i a => jmax a (nI (coK p (hN v i)))) i 0) (nI (coK p (hN v i)))) (nI i + 1)
      obtain ⟨e1, e2⟩ := h.2.2.2.h hi
      have cI : ∀ {α : Type} (X : Option α), ck (nI i) 10 X = X := fun X => ckI (by omega) (by decide)
      have kI : (nI i).toNatClampNeg = i := nI_clamp (by omega)
      have eg : fa_fill (fun b => nI (coK p (hN v b))) gh i i = nI (hN v i) := by rw [fa_fill_out (Nat.le_refl i), h.h hi, e1]
      rw [lL_acts_322, cn8, cl8, h.n8, if_neg (nI_ge hi (by omega))]
      simp only [cI, kI]
      rw [eg, L_cool hN0 e2 (by omega), bsome, fa_fill_succ (fun b => nI (coK p (hN v b))) gh i, fa_fill_in (by omega)]
      unfold jmax
      by_cases c : nI (coK p (hN v i)) ≤ rng (fun i a => if a < nI (coK p (hN v i)) then nI (coK p (hN v i)) else a) i 0
      · rw [if_pos c, if_neg (Int32.not_lt.mpr c)]
      · rw [if_neg c, if_pos (Int32.not_le.mp c)]) (n := N) 0 (by omega) (by omega)
  rw [fa_fill_0] at h1
  exact h1
theorem LI.sh (h : LI B q v gl ge gw gh gt gn gp) {s : Nat} (hs : s < 3) : gp (7 * s) = nI (hgt v B (nI s)) := (h.2.1 s hs).1
theorem c_top0 (hN0 : 2097152 ≤ N) (h : LI B q v gl ge gw gh gt gn gp) {s : Nat} (hs : s < 3) (h0 : hgt v B (nI s) = 0) : fX3_blockAt N v (nI s) (nI 0 - 1) = some (-1) := by
  have hl := h.le
  rcases X3_blockAt hN0 h.b (by omega) (nI s) (nI 0 - 1) with ⟨b, q1, q2⟩ | ⟨q1, q2⟩
  · obtain ⟨p, q3, -⟩ := h.2.2.1.2.1 b q1.1 (by rw [q1.2.1]; exact st_ne hs)
    rw [q1.2.1] at q3
    exact absurd q3 (by show ¬ p < hgt v B (nI s); omega)
  · exact q2
theorem c_topk (hN0 : 2097152 ≤ N) (h : LI B q v gl ge gw gh gt gn gp) {s k : Nat} (hs : s < 3) (hk : k < hgt v B (nI s)) : fX3_blockAt N v (nI s) (nI k) = some (gp (7 * s + 1 + k)) := by
  have hl := h.le
  obtain ⟨t, t1, t2, t3, t4⟩ := h.2.1.at h.2.2.1 (by omega) hs (show k < hg (sK v) B (nI s) by rw [← hgt_hg]; omega)
  rcases X3_blockAt hN0 h.b (by omega) (nI s) (nI k) with ⟨c, q1, q2⟩ | ⟨q1, q2⟩
  · rw [q2, t4, SKf.uni h.2.2.1 (st_ne hs) c t q1.1 t1 q1.2.1 t2 (q1.2.2.trans t3.symm)]
  · exact absurd ⟨t1, t2, t3⟩ (q1 t)
theorem lt2 {j : Nat} {m : Int32} {k : Nat} (hm : m = nI k) (hk : k < 2 ^ 31) (hj : j ≤ k) : (0 : Int32) ≤ nI j ∧ nI j ≤ m := by
  subst hm
  exact ⟨nI_le (a := 0) (by omega) (by omega), nI_le hj hk⟩
theorem L_turn2 (hN0 : 2097152 ≤ N) (hq : q ≤ 800000) (h : LI B q v gl ge gw gh gt gn gp) (hz : ZV z) {s : Nat} (hs : s < 3) : ACp (q + 200) (ck (7 * nI s) 21 ((if (gp (Int32.toNatClampNeg (7 * nI s))) = (0 : Int32) then ((fX4_stackOf N v (nI s) 4).bind fun r28 => (if r28 = ((-1) : Int32) then some (v, z, gl, ge, gw, gh, gt, gn, gp, true) else none)) else ck (7 * nI s) 21 (ck ((7 * nI s) + (gp (Int32.toNatClampNeg (7 * nI s)))) 21 (((fL_rubs N gw gh gn gp (nI s)).bind fun r26 => ck (7 * nI s) 21 (ck (7 * nI s) 21 (ck 6 9 (ck 6 9 (((fX4_takeOff N v z (nI s)).bind fun r27 => (if r27.2.2 = (gp (Int32.toNatClampNeg ((7 * nI s) + (gp (Int32.toNatClampNeg (7 * nI s)))))) then some (r27.1, r27.2.1, gl, ge, r26.1, r26.2, gt, (upd gn (Int32.toNatClampNeg 6) ((gn (Int32.toNatClampNeg 6)) + 1)), (upd gp (Int32.toNatClampNeg (7 * nI s)) ((gp (Int32.toNatClampNeg (7 * nI s))) - 1)), true) else none)))))))))))) := by
  have hl := h.le
  have hhl := hgt_le v B (nI s)
  have h6 := h.2.2.1.2.2.2 _ (st_ne hs)
  rw [← hgt_hg] at h6
  have c7 : ∀ {α : Type} (X : Option α), ck (nI (7 * s)) 21 X = X := fun X => ckI (by omega) (by decide)
  have c8 : ∀ {α : Type} (X : Option α), ck (nI (7 * s + hgt v B (nI s))) 21 X = X := fun X => ckI (by omega) (by decide)
  have k7 : (nI (7 * s)).toNatClampNeg = 7 * s := nI_clamp (by omega)
  have k8 : (nI (7 * s + hgt v B (nI s))).toNatClampNeg = 7 * s + hgt v B (nI s) := nI_clamp (by omega)
  simp only [nI7, c7, k7, h.sh hs, nI_add, c8, k8, cn6, cl6]
  rcases hc : hgt v B (nI s) with _ | k
  · have e1 : fX4_stackOf N v (nI s) 4 = some (-1) := by
      unfold fX4_stackOf
      rw [ccs N hs, bsome, if_neg (by decide), if_neg (by decide), if_neg (by decide), if_neg (by decide), if_pos rfl, X3_heightOf hN0 h.b (by omega), bsome, hc, c_top0 hN0 h hs hc]
      rfl
    rw [if_pos (show nI 0 = (0 : Int32) from rfl), e1, bsome, if_pos rfl]
    exact ⟨_, _, _, _, _, _, _, _, _, _, rfl, hz, h.mono (by omega)⟩
  · obtain ⟨t, gw', gh', v', t1, t2, t3, t4, t5⟩ := L_off hN0 (by omega) h hs hc
    obtain ⟨z', hz', e1⟩ := push_ok N hz v
    have e2 : fX4_takeOff N v z (nI s) = some (v', z', nI t) := by
      unfold fX4_takeOff
      rw [ccs N hs, bsome, X3_heightOf hN0 h.b (by omega), bsome, hc, if_neg (nI_ne0 (by omega) (by omega)), e1, bsome, t4, bsome]
    rw [if_neg (show ¬ nI (k + 1) = (0 : Int32) from nI_ne0 (by omega) (by omega)), t3, bsome, e2, bsome, if_pos t2.symm, nI_pred]
    exact ⟨_, _, _, _, _, _, _, _, _, _, rfl, hz', t5.mono (by omega)⟩
theorem L_acts (hN0 : 2097152 ≤ N) (hq : q ≤ 800000) (h : LI B q v gl ge gw gh gt gn gp) (hz : ZV z) (kd x : Int32) : ACp (q + 400) (fL_acts N v tx z gl ge gw gh gt gn gp kd x) := by
  have hl := h.le
  have up : ∀ {X}, ACp q X → ACp (q + 400) X := fun ⟨B, v, z, gl, ge, gw, gh, gt, gn, gp, e, hz, hh⟩ => ⟨B, v, z, gl, ge, gw, gh, gt, gn, gp, e, hz, hh.mono (by omega)⟩
  have up2 : ∀ {X}, ACp (q + 200) X → ACp (q + 400) X := fun ⟨B, v, z, gl, ge, gw, gh, gt, gn, gp, e, hz, hh⟩ => ⟨B, v, z, gl, ge, gw, gh, gt, gn, gp, e, hz, hh.mono (by omega)⟩
  have same : ACp (q + 400) (some (v, z, gl, ge, gw, gh, gt, gn, gp, true)) := up ⟨_, _, _, _, _, _, _, _, _, _, rfl, hz, h⟩
  unfold fL_acts
  rw [cn8, cl8, h.n8]
  refine bxP (fun r : Int32 => (r = -1 ∧ B = 0) ∨ ∃ b, b < B ∧ r = nI b) ?_ (fun r1 hr1 => ?_)
  · by_cases c : B = 0
    · subst c
      exact ⟨-1, by rw [if_pos (show nI 0 = (0 : Int32) from rfl)], .inl ⟨rfl, rfl⟩⟩
    · obtain ⟨b, hb, e⟩ := L_low N x (m := B) (by omega) (by omega)
      exact ⟨nI b, by rw [if_neg (show ¬ nI B = (0 : Int32) from nI_ne0 (by omega) (by omega)), cn8, e]; rfl, .inr ⟨b, hb, rfl⟩⟩
  obtain ⟨s, hs, es⟩ : ∃ s, s < 3 ∧ fL_low N (x >>> (5 &&& 31)) 3 = some (nI s) := L_low N _ (by decide) (by decide)
  rw [es, bsome]
  by_cases k0 : kd = 0
  · rw [if_pos k0]
    obtain ⟨B', v', z', gl', ge', gw', gh', gt', gn', e, hz', hh⟩ := L_adds (tx := tx) hN0 h hz x
    rw [e, bsome]
    exact up ⟨_, _, _, _, _, _, _, _, _, _, rfl, hz', hh⟩
  rw [if_neg k0]
  by_cases k1 : kd = 1
  · rw [if_pos k1]
    obtain ⟨p, hp, ep⟩ : ∃ p, p < 10 ∧ fL_low N x 10 = some (nI p) := L_low N _ (by decide) (by decide)
    obtain ⟨B', v', z', gl', ge', gw', gh', gt', gn', gp', e, hz', hh⟩ := L_discards (tx := tx) hN0 h hz hp
    rw [ep, bsome, e, bsome]
    exact up ⟨_, _, _, _, _, _, _, _, _, _, rfl, hz', hh⟩
  rw [if_neg k1]
  by_cases k2 : kd = 2
  · rw [if_pos k2]
    rcases hr1 with ⟨rfl, -⟩ | ⟨b, hb, rfl⟩
    · rw [if_pos rfl]
      exact same
    · rw [if_neg (nI_m1 (by omega)), L_where hN0 hl h.2.2.1 h.2.1 hb, bsome]
      by_cases cf : sK v b = -1
      · have cI : ∀ {α : Type} (X : Option α), ck (nI b) 10 X = X := fun X => ckI (by omega) (by decide)
        have kI : (nI b).toNatClampNeg = b := nI_clamp (by omega)
        obtain ⟨z', hz', e1⟩ := push_ok N hz v
        have e2 : fX4_calibrate N v z (nI b) = some (calS v b, z', grd (err (calS v b) b)) := by
          unfold fX4_calibrate
          rw [ccb N h.b (by omega) hb, bsome, ccf N (by omega) cf, bsome, e1, bsome, X3_calib N v (by omega), bsome, X3_gradeOf N _ (by omega), bsome]
        have e3 : upd ge b (jmax (err v b) (-900)) b - upd gw b 0 b = err (calS v b) b := by
          show _ = upd (sD v) b (jmax (err v b) (-900)) b - upd (sW v) b 0 b
          rw [pk_us, pk_us, pk_us, pk_us]
        rw [if_pos ((wh_m1 hl h.2.2.1 hb).mpr cf)]
        simp only [cI, kI]
        rw [h.err hb, cal_law, bsome, e2, bsome, L_grade N _ _ (by omega), bsome, e3, if_pos rfl]
        exact up ⟨_, _, _, _, _, _, _, _, _, _, rfl, hz', LI_cal h (by omega) hb⟩
      · rw [if_neg (fun e => cf ((wh_m1 hl h.2.2.1 hb).mp e))]
        exact same
  rw [if_neg k2]
  by_cases k3 : kd = 3
  · rw [if_pos k3]
    rcases hr1 with ⟨rfl, -⟩ | ⟨b, hb, rfl⟩
    · rw [if_pos rfl]
      exact same
    · obtain ⟨j, hj, ej⟩ : ∃ j, j < 60 ∧ fL_low N (x >>> (7 &&& 31)) 60 = some (nI j) := L_low N _ (by decide) (by decide)
      have cI : ∀ {α : Type} (X : Option α), ck (nI b) 10 X = X := fun X => ckI (by omega) (by decide)
      have kI : (nI b).toNatClampNeg = b := nI_clamp (by omega)
      obtain ⟨z', hz', e1⟩ := push_ok N hz v
      have e5 : 5 * (1 + nI j) = nI (5 * (1 + j)) := by
        rw [show 1 + nI j = nI (1 + j) from nI_add 1 j]
        exact nI_mul 5 _
      have e6 : (1 + nI j) * 5 = nI (5 * (1 + j)) := by rw [Int32.mul_comm, e5]
      have e2 : fX4_hold N v z (nI b) (1 + nI j) = some (uH v (upd (sH v) b (hot (sH v b) (nI (5 * (1 + j))))), z', hot (sH v b) (nI (5 * (1 + j)))) := by
        unfold fX4_hold
        rw [ccb N h.b (by omega) hb, bsome, ccr N (show (1 : Int32) ≤ 1 + nI j from by rw [show 1 + nI j = nI (1 + j) from nI_add 1 j]; exact nI_le (a := 1) (by omega) (by omega)) (show 1 + nI j ≤ 60 from by rw [show 1 + nI j = nI (1 + j) from nI_add 1 j]; exact nI_le (b := 60) (by omega) (by decide)), bsome, e1, bsome, e6, X3_warm N v (by omega), bsome, ckI (by omega) (by decide), kI]
        show some (_, _, upd (sH v) b (hot (sH v b) (nI (5 * (1 + j)))) b) = _
        rw [pk_us]
      rw [if_neg (nI_m1 (by omega)), ej, bsome]
      simp only [cI, kI]
      rw [e5, hold_law, bsome, e2, bsome, h.h hb, if_pos pk_us.symm]
      exact up ⟨_, _, _, _, _, _, _, _, _, _, rfl, hz', LI_hot h hb (by rw [nI_toInt (by omega)]; omega)⟩
  rw [if_neg k3]
  by_cases k4 : kd = 4
  · rw [if_pos k4]
    obtain ⟨i, hi, ei⟩ : ∃ i, i < 2 ∧ fL_low N (x >>> (7 &&& 31)) 2 = some (nI i) := L_low N _ (by decide) (by decide)
    have e4 : ∃ w, 0 < w ∧ w ≤ 60 ∧ (if nI i = 0 then some (60 : Int32) else some 6) = some (nI w) := by
      by_cases c2 : nI i = 0
      · exact ⟨60, by decide, by decide, by rw [if_pos c2]; rfl⟩
      · exact ⟨6, by decide, by decide, by rw [if_neg c2]; rfl⟩
    obtain ⟨w, w0, w1, ew⟩ := e4
    obtain ⟨j, hj, ej⟩ := L_low N x w0 (show w < 2 ^ 31 by omega)
    obtain ⟨z', hz', e1⟩ := push_ok N hz v
    have e2 : fX4_rest N v z (nI (1 + j)) = some (uM (rsH v (1 + j) B) (sM v + nI (1 + j)), z', rng (fun i a => jmax a (nI (coK (1 + j) (hN v i)))) B 0) := by
      unfold fX4_rest
      rw [ccr N (show (1 : Int32) ≤ nI (1 + j) from nI_le (a := 1) (by omega) (by omega)) (show nI (1 + j) ≤ 60 from nI_le (b := 60) (by omega) (by decide)), bsome, e1, bsome, X3_letPass hN0 h.b (by omega) h.2.2.2 (by omega), bsome, X3_greatest hN0 h.b (by omega), bsome]
    rw [ei, bsome, ew, bsome, ej, bsome, show 1 + nI j = nI (1 + j) from nI_add 1 j, L_rest hN0 h (by omega), bsome]
    simp only [cn4, cl4]
    rw [e2, bsome, if_pos rfl]
    exact up ⟨_, _, _, _, _, _, _, _, _, _, rfl, hz', LI_rest h (1 + j)⟩
  rw [if_neg k4]
  by_cases k5 : kd = 5
  · rw [if_pos k5]
    obtain ⟨j, hj, ej⟩ : ∃ j, j < 4 ∧ fL_low N x 4 = some (nI j) := L_low N _ (by decide) (by decide)
    obtain ⟨z', hz', e1⟩ := push_ok N hz v
    have cI : ∀ {α : Type} (X : Option α), ck (nI j) 9 X = X := fun X => ckI (by omega) (by decide)
    have kI : (nI j).toNatClampNeg = j := nI_clamp (by omega)
    rw [ej, bsome, cI]
    refine bxP (fun r : Int32 => 0 ≤ r ∧ r ≤ stM j) ?_ (fun y hy => ?_)
    · rcases (show j = 0 ∨ j = 1 ∨ j = 2 ∨ j = 3 by omega) with rfl | rfl | rfl | rfl
      · obtain ⟨i, hi, ei⟩ : ∃ i, i < 61 ∧ fL_low N (x >>> (2 &&& 31)) 61 = some (nI i) := L_low N _ (by decide) (by decide)
        exact ⟨nI i, by rw [if_pos (by decide), ei]; rfl, lt2 (k := 60) (m := stM 0) (by decide +kernel) (by decide) (by omega)⟩
      · obtain ⟨i, hi, ei⟩ : ∃ i, i < 1001 ∧ fL_low N (x >>> (2 &&& 31)) 1001 = some (nI i) := L_low N _ (by decide) (by decide)
        exact ⟨nI i, by rw [if_neg (by decide), if_pos (by decide), ei]; rfl, lt2 (k := 1000) (m := stM 1) (by decide +kernel) (by decide) (by omega)⟩
      · obtain ⟨i, hi, ei⟩ : ∃ i, i < 21 ∧ fL_low N (x >>> (2 &&& 31)) 21 = some (nI i) := L_low N _ (by decide) (by decide)
        exact ⟨nI i, by rw [if_neg (by decide), if_neg (by decide), if_pos (by decide), ei]; rfl, lt2 (k := 20) (m := stM 2) (by decide +kernel) (by decide) (by omega)⟩
      · obtain ⟨i, hi, ei⟩ : ∃ i, i < 201 ∧ fL_low N (x >>> (2 &&& 31)) 201 = some (nI i) := L_low N _ (by decide) (by decide)
        exact ⟨nI i, by rw [if_neg (by decide), if_neg (by decide), if_neg (by decide), ei]; rfl, lt2 (k := 200) (m := stM 3) (by decide +kernel) (by decide) (by omega)⟩
    · have e2 : fX4_set N v z (nI j) y = some (uS v (upd (sS v) j y), z', sS v j) := by
        unfold fX4_set
        rw [cce N hj, bsome, ckI (by omega) (by decide), kI, ccr N hy.1 hy.2, bsome, e1, bsome, ckI (by omega) (by decide), ckI (by omega) (by decide)]
        rfl
      simp only [cI, kI]
      rw [show upd gn j y j = y from pk_us, e2, bsome, if_pos (h.1.2.1 j hj).symm]
      exact up ⟨_, _, _, _, _, _, _, _, _, _, rfl, hz', LI_set h hj hy.1 hy.2⟩
  rw [if_neg k5]
  by_cases k6 : kd = 6
  · rw [if_pos k6]
    exact up2 (L_turn2 hN0 hq h hz hs)
  rw [if_neg k6]
  by_cases k7 : kd = 7
  · rw [if_pos k7]
    exact up2 (L_turn2 hN0 hq h hz hs)
  rw [if_neg k7]
  by_cases k8 : kd = 8
  · rw [if_pos k8, cn8]
    refine bxP (fun r : Int32 => ∃ R, r = nI R ∧ 500 ≤ R ∧ R ≤ 600000) ?_ (fun y hy => ?_)
    · rcases hr1 with ⟨rfl, rfl⟩ | ⟨b, hb, rfl⟩
      · exact ⟨700, by rw [if_pos (show nI 0 = (0 : Int32) from rfl)], 700, rfl, by decide, by decide⟩
      · obtain ⟨c, hc, ec⟩ := L_low N (x >>> (7 &&& 31)) (m := B) (by omega) (by omega)
        obtain ⟨n1, n2, n3⟩ := h.2.2.2.n hb
        obtain ⟨m1, m2, m3⟩ := h.2.2.2.n hc
        refine ⟨nI (nm v b + nm v c), ?_, _, rfl, by omega, by omega⟩
        rw [if_neg (show ¬ nI B = (0 : Int32) from nI_ne0 (by omega) (by omega)), ckI (by omega) (by decide), cn8, ec, bsome, ckI (by omega) (by decide), nI_clamp (by omega), nI_clamp (by omega), h.l hb, h.l hc, n1, m1, nI_add]
    · obtain ⟨R, rfl, r1, r2⟩ := hy
      obtain ⟨B', v', z', gw', gh', gt', gn', gp', e, hz', hh⟩ := L_makes hN0 hq h hz hs r1 r2
      rw [e, bsome]
      exact up2 ⟨_, _, _, _, _, _, _, _, _, _, rfl, hz', hh⟩
  rw [if_neg k8]
  rcases hr1 with ⟨rfl, -⟩ | ⟨b, hb, rfl⟩
  · rw [if_pos rfl]
    exact same
  · obtain ⟨gw', gh', gt', gn', gp', v', w1, w2, w3⟩ := L_wrings hN0 (by omega) h hs hb
    obtain ⟨z', hz', e1⟩ := push_ok N hz v
    have e2 : fX4_refusal N v (nI s) (nI b) = some (rsn v B (nI s) b) := by
      unfold fX4_refusal
      rw [ccs N hs, bsome, ccb N h.b (by omega) hb, bsome, X3_reason hN0 h.b (by omega) (nI s) hb, bsome]
    have e3 : fX4_wring N v z (nI s) (nI b) = some (v', z', rsn v B (nI s) b) := by
      unfold fX4_wring
      rw [ccs N hs, bsome, ccb N h.b (by omega) hb, bsome, e1, bsome, w2, bsome]
    rw [if_neg (nI_m1 (by omega)), e2, bsome, L_reason hN0 h hs hb, bsome, if_pos rfl, e3, bsome, w1, bsome, if_pos rfl]
    exact ⟨_, _, _, _, _, _, _, _, _, _, rfl, hz', w3.mono (by omega)⟩
end AX
