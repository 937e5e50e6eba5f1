/-! the class's calls as the law makes them: their arguments are in range; a block comes, a block goes -/
theorem ccr (N : Nat) {x a b : Int32} (h : a ≤ x) (h2 : x ≤ b) : fX4_checkRange N x a b = some () := by
  unfold fX4_checkRange
  rw [if_neg (Int32.not_lt.mpr h), if_pos h2]
theorem ccb (N : Nat) {v : VS} {B b : Nat} (hB : sB v = nI B) (hl : B ≤ 20) (hb : b < B) : fX4_checkBlock N v (nI b) = some () := by
  unfold fX4_checkBlock fX3_hasBlock
  rw [if_neg (show ¬ nI b < 0 from nI_nlt (b := 0) (by omega) (by omega)), hB, if_neg (nI_ge hb (by omega))]
  rfl
theorem ccs (N : Nat) {s : Nat} (hs : s < 3) : fX4_checkStack N (nI s) = some () := by
  unfold fX4_checkStack
  rw [if_neg (show ¬ nI s < 0 from nI_nlt (b := 0) (by omega) (by omega)), if_pos (show nI s < 3 from nI_lt (b := 3) hs (by decide))]
theorem cce (N : Nat) {s : Nat} (hs : s < 4) : fX4_checkSetting N (nI s) = some () := by
  unfold fX4_checkSetting
  rw [if_neg (show ¬ nI s < 0 from nI_nlt (b := 0) (by omega) (by omega)), if_pos (show nI s < 4 from nI_lt (b := 4) hs (by decide))]
theorem ccf (N : Nat) {v : VS} {b : Nat} (hb : b < 20) (hf : sK v b = -1) : fX4_checkFree N v (nI b) = some () := by
  unfold fX4_checkFree
  rw [X3_isFree N v hb, bsome, if_pos (decide_eq_true hf)]
theorem ccl (N : Nat) {R : Nat} (h1 : 500 ≤ R) (h2 : R ≤ 600000) : fX4_checkLength N (nI R) = some () := by
  unfold fX4_checkLength
  rw [ccr N (show (500 : Int32) ≤ nI R from nI_le (a := 500) h1 (by omega)) (show nI R ≤ 600000 from nI_le (b := 600000) h2 (by decide))]
  rfl
def ZV (z : VV) : Prop := ∃ n, n ≤ 6 ∧ vN z = nI n
theorem push_ok (N : Nat) {z : VV} (hz : ZV z) (v : VS) : ∃ z', ZV z' ∧ fX2_push N v z = some z' := by
  obtain ⟨n, hn, e⟩ := hz
  unfold fX2_push
  by_cases c : n = 6
  · subst c
    rw [e, if_neg (by decide)]
    exact ⟨_, ⟨6, by decide, rfl⟩, pushAt_n N (n := 5) (by decide) rfl v⟩
  · rw [e, if_pos (show nI n < 6 from nI_lt (b := 6) (by omega) (by decide))]
    exact ⟨_, ⟨n + 1, by omega, rfl⟩, pushAt_n N (by omega) e v⟩
theorem upd_in {f g : Nat → Int32} {b c : Nat} {x y : Int32} (h : c ≠ b → f c = g c) (e : x = y) : upd f b x c = upd g b y c := by
  rcases Nat.decEq c b with q | q
  · exact (pk_un q).trans ((h q).trans (pk_un q).symm)
  · subst q; subst e; exact pk_us.trans pk_us.symm
theorem bxP {α β : Type} {P : Option β → Prop} {o : Option α} {f : α → Option β} (R : α → Prop) (h1 : ∃ p, o = some p ∧ R p) (h2 : ∀ p, R p → P (f p)) : P (o.bind f) := by
  obtain ⟨p, e, r⟩ := h1
  rw [e]
  exact h2 p r
theorem PL.add {B : Nat} {K P gp : Nat → Int32} (hp : PL B K P gp) : PL (B + 1) (upd K B (-1)) (upd P B (-1)) gp := by
  intro s hs
  rw [hg_add K B (st_ne hs)]
  refine ⟨(hp s hs).1, fun b hb hK => ?_⟩
  rcases Nat.decEq b B with e | e
  · rw [pk_un e] at hK
    obtain ⟨k, k1, k2, k3⟩ := (hp s hs).2 b (by omega) hK
    exact ⟨k, k1, (pk_un e).trans k2, k3⟩
  · subst e
    rw [pk_us] at hK
    exact absurd hK.symm (st_ne hs)
section AD
variable {N B q : Nat} {v : VS} {z : VV} {tx : VT} {gl ge gw gh gt gn gp : Nat → Int32}
theorem LI.add (h : LI B q v gl ge gw gh gt gn gp) (hb : B < 10) {p1 p2 : Int32} (r1 : 500 ≤ p1.toInt ∧ p1.toInt ≤ 100000) (r2 : -900 ≤ p2.toInt ∧ p2.toInt ≤ 900) :
    LI (B + 1) q (addS v B p1 p2) (upd gl B p1) (upd ge B p2) (upd gw B 0) (upd gh B 0) (upd gt B 0) (upd gn 8 (nI (B + 1))) gp := by
  refine ⟨⟨⟨hb, rfl, pk_us, h.fk.ad⟩, fun j hj => (pk_un (by omega)).trans (h.1.2.1 j hj), ⟨(pk_un (by decide)).trans h.n4, (pk_un (by decide)).trans h.n5, (pk_un (by decide)).trans h.n6, (pk_un (by decide)).trans h.n7⟩, fun x hx => ⟨upd_in (fun e => h.l (by omega)) rfl, upd_in (fun e => h.e (by omega)) rfl, upd_in (fun e => h.w (by omega)) rfl, upd_in (fun e => h.h (by omega)) rfl, upd_in (fun e => h.t (by omega)) rfl⟩⟩, h.2.1.add, h.2.2.1.add, h.2.2.2.add r1 r2⟩
theorem c_block (hB : sB v = nI B) (hb : B < 20) (hz : ZV z) {p1 p2 : Int32} (r1 : 500 ≤ p1.toInt ∧ p1.toInt ≤ 100000) (r2 : -900 ≤ p2.toInt ∧ p2.toInt ≤ 900) : ∃ z', ZV z' ∧ fX4_block N v z p1 p2 = some (addS v B p1 p2, z', nI B) := by
  obtain ⟨z', h1, h2⟩ := push_ok N hz v
  refine ⟨z', h1, ?_⟩
  unfold fX4_block
  rw [ccr N (fa_le .. |>.mpr (by rw [show (500 : Int32).toInt = 500 from by decide +kernel]; omega)) (fa_le .. |>.mpr (by rw [show (100000 : Int32).toInt = 100000 from by decide +kernel]; omega)), bsome,
    ccr N (fa_le .. |>.mpr (by rw [show (-900 : Int32).toInt = -900 from by decide +kernel]; omega)) (fa_le .. |>.mpr (by rw [show (900 : Int32).toInt = 900 from by decide +kernel]; omega)), bsome, X3_isFull N hB (by omega), bsome, if_neg (fun e => by have := of_decide_eq_true e; omega), h2, bsome, X3_addBlock N hB hb, bsome]
/-- what a call of the law's 'adds' comes to -/
def ADp (q : Nat) (gp : Nat → Int32) (X : Option (VS × VV × (Nat → Int32) × (Nat → Int32) × (Nat → Int32) × (Nat → Int32) × (Nat → Int32) × (Nat → Int32) × Bool)) : Prop :=
  ∃ B v z gl ge gw gh gt gn, X = some (v, z, gl, ge, gw, gh, gt, gn, true) ∧ ZV z ∧ LI B q v gl ge gw gh gt gn gp
def ACp (q : Nat) (X : Option (VS × VV × (Nat → Int32) × (Nat → Int32) × (Nat → Int32) × (Nat → Int32) × (Nat → Int32) × (Nat → Int32) × (Nat → Int32) × Bool)) : Prop :=
  ∃ B v z gl ge gw gh gt gn gp, X = some (v, z, gl, ge, gw, gh, gt, gn, gp, true) ∧ ZV z ∧ LI B q v gl ge gw gh gt gn gp
theorem nI_500 (j : Nat) : 500 + nI j = nI (500 + j) := nI_add 500 j
theorem L_adds (hN0 : 2097152 ≤ N) (h : LI B q v gl ge gw gh gt gn gp) (hz : ZV z) (x : Int32) : ADp q gp (fL_adds N v tx z gl ge gw gh gt gn x) := by
  have hl := h.le
  unfold fL_adds
  rw [cn8, cl8, h.n8]
  by_cases c : B = 10
  · subst c
    rw [if_pos (show nI 10 = (10 : Int32) from rfl)]
    have e : fX4_count N v tx z 0 = some (nI 10) := by
      unfold fX4_count
      rw [if_pos rfl, h.b]
    rw [e, bsome, if_pos (show nI 10 = (10 : Int32) from rfl)]
    exact ⟨_, _, _, _, _, _, _, _, _, rfl, hz, h⟩
  · rw [if_neg (show ¬ nI B = (10 : Int32) from fun e => c ((nI_eq (b := 10) (by omega) (by decide)).mp e)), cn8]
    obtain ⟨k, -, e1⟩ : ∃ k, k < 3 ∧ fL_low N x 3 = some (nI k) := L_low N x (by decide) (by decide)
    rw [e1, bsome]
    refine bxP (fun p : Int32 => 500 ≤ p.toInt ∧ p.toInt ≤ 100000) ?_ (fun p hp => ?_)
    · by_cases c0 : nI k = 0
      · rw [if_pos c0]
        obtain ⟨j, hj, e2⟩ : ∃ j, j < 99501 ∧ fL_low N (x >>> (4 &&& 31)) 99501 = some (nI j) := L_low N _ (by decide) (by decide)
        rw [e2, bsome]
        refine ⟨_, rfl, ?_⟩
        rw [nI_500, nI_toInt (by omega)]
        omega
      · rw [if_neg c0, bsome]
        by_cases c1 : nI k = 1
        · rw [if_pos c1]
          obtain ⟨j, hj, e2⟩ : ∃ j, j < 9 ∧ fL_low N (x >>> (4 &&& 31)) 9 = some (nI j) := L_low N _ (by decide) (by decide)
          rw [e2, bsome]
          refine ⟨_, rfl, ?_⟩
          rw [show 1000 * (1 + nI j) = nI (1000 * (1 + j)) from by rw [show 1 + nI j = nI (1 + j) from nI_add 1 j]; exact nI_mul 1000 _, nI_toInt (by omega)]
          omega
        · rw [if_neg c1]
          obtain ⟨j, hj, e2⟩ : ∃ j, j < 10 ∧ fL_low N (x >>> (4 &&& 31)) 10 = some (nI j) := L_low N _ (by decide) (by decide)
          obtain ⟨i, hi, e3⟩ : ∃ i, i < 2 ∧ fL_low N (x >>> (9 &&& 31)) 2 = some (nI i) := L_low N _ (by decide) (by decide)
          rw [e2, bsome, e3, bsome]
          have e4 : ∃ w, w ≤ 10 ∧ (if nI i = 0 then some (1 : Int32) else some 10) = some (nI w) := by
            by_cases c2 : nI i = 0
            · exact ⟨1, by decide, by rw [if_pos c2]; rfl⟩
            · exact ⟨10, by decide, by rw [if_neg c2]; rfl⟩
          obtain ⟨w, hw, e5⟩ := e4
          rw [e5, bsome]
          refine ⟨_, rfl, ?_⟩
          have hjw : j * w ≤ 9 * 10 := Nat.mul_le_mul (by omega) hw
          rw [nI_mul, show 1000 + nI (j * w) = nI (1000 + j * w) from nI_add 1000 _, nI_toInt (by omega)]
          omega
    · rw [ckI (by omega) (by decide)]
      obtain ⟨k2, -, e2⟩ : ∃ k, k < 4 ∧ fL_low N (x >>> (3 &&& 31)) 4 = some (nI k) := L_low N _ (by decide) (by decide)
      rw [e2, bsome]
      refine bxP (fun p : Int32 => -900 ≤ p.toInt ∧ p.toInt ≤ 900) ?_ (fun p2 hp2 => ?_)
      · by_cases c0 : nI k2 = 0
        · rw [if_pos c0]
          obtain ⟨j, hj, e3⟩ : ∃ j, j < 1801 ∧ fL_low N (x >>> (6 &&& 31)) 1801 = some (nI j) := L_low N _ (by decide) (by decide)
          rw [e3, bsome]
          refine ⟨_, rfl, ?_⟩
          rw [fb_subI (by rw [nI_toInt (by omega), show (900 : Int32).toInt = 900 from by decide +kernel]; omega) (by rw [nI_toInt (by omega), show (900 : Int32).toInt = 900 from by decide +kernel]; omega), nI_toInt (by omega), show (900 : Int32).toInt = 900 from by decide +kernel]
          omega
        · rw [if_neg c0]
          obtain ⟨j, hj, e3⟩ : ∃ j, j < 300 ∧ fL_low N (x >>> (6 &&& 31)) 300 = some (nI j) := L_low N _ (by decide) (by decide)
          rw [e3, bsome]
          refine ⟨_, rfl, ?_⟩
          rw [fb_subI (by rw [nI_toInt (by omega), show (150 : Int32).toInt = 150 from by decide +kernel]; omega) (by rw [nI_toInt (by omega), show (150 : Int32).toInt = 150 from by decide +kernel]; omega), nI_toInt (by omega), show (150 : Int32).toInt = 150 from by decide +kernel]
          omega
      · have cb : ∀ {α : Type} (X : Option α), ck (nI B) 10 X = X := fun X => ckI (by omega) (by decide)
        have kb : (nI B).toNatClampNeg = B := nI_clamp (by omega)
        obtain ⟨z', hz', e3⟩ := c_block (N := N) h.b (by omega) hz hp hp2
        simp only [cb, kb, cn8]
        rw [show upd gl B p B = p from pk_us, show upd ge B p2 B = p2 from pk_us, e3, bsome, if_pos rfl, nI_1]
        exact ⟨_, _, _, _, _, _, _, _, _, rfl, hz', h.add (by omega) hp hp2⟩
end AD
section DI
variable {N B q : Nat} {v : VS} {z : VV} {tx : VT} {gl ge gw gh gt gn gp : Nat → Int32}
def mvd (g : Nat → Int32) (p i : Nat) : Nat → Int32 := fun j => if p ≤ j ∧ j < i then g (j + 1) else g j
theorem L_moves (hN0 : 2097152 ≤ N) (g : Nat → Int32) {p : Nat} (hp : p < 10) : fL_moves N g (nI p) = some (mvd g p 9) := by
  have key : ∀ k i f, i + k = 9 → p ≤ i → k < f → lL_moves_2 N f (mvd g p i) (nI i) = some (mvd g p 9) := by
    intro k
    induction k with
    | zero =>
      intro i f hi hpi hf
      obtain ⟨f, rfl⟩ : ∃ x, f = x + 1 := ⟨f - 1, by omega⟩
      have e : i = 9 := by omega
      subst e
      rw [lL_moves_2, if_pos (by decide)]
    | succ k ih =>
      intro i f hi hpi hf
      obtain ⟨f, rfl⟩ : ∃ x, f = x + 1 := ⟨f - 1, by omega⟩
      rw [lL_moves_2, if_neg (show ¬ (9 : Int32) ≤ nI i from nI_ge (b := 9) (by omega) (by decide)), nI_1, ckI (by omega) (by decide), ckI (by omega) (by decide), nI_clamp (by omega), nI_clamp (by omega)]
      have e : upd (mvd g p i) i (mvd g p i (i + 1)) = mvd g p (i + 1) := by
        funext j
        rcases Nat.decEq j i with c | c
        · rw [pk_un c]
          unfold mvd
          by_cases c2 : p ≤ j ∧ j < i
          · rw [if_pos c2, if_pos ⟨c2.1, by omega⟩]
          · rw [if_neg c2, if_neg (fun z => c2 ⟨z.1, by omega⟩)]
        · subst c
          rw [pk_us]
          unfold mvd
          rw [if_neg (by omega), if_pos ⟨hpi, by omega⟩]
      rw [e]
      exact ih (i + 1) f (by omega) (by omega) (by omega)
  unfold fL_moves
  have e0 : mvd g p p = g := funext fun j => if_neg (by omega)
  have h1 := key (9 - p) p N (by omega) (by omega) (by omega)
  rw [e0] at h1
  rw [h1]
  rfl
theorem mvd_gap {g f : Nat → Int32} {p b : Nat} (hB : B ≤ 10) (hg : ∀ c, c < B → g c = f c) (hb : b + 1 < B) : mvd g p 9 b = gap f B p b := by
  rw [gap_if hb]
  unfold mvd
  by_cases c : p ≤ b
  · rw [if_pos ⟨c, by omega⟩, if_neg (by omega), hg _ hb]
  · rw [if_neg (fun z => c z.1), if_pos (by omega), hg _ (by omega)]
def dcp (gp : Nat → Int32) (p i : Nat) : Nat → Int32 := fun j => if j < i then (if j % 7 = 0 then gp j else if gp j ≤ nI p then gp j else gp j - 1) else gp j
theorem i32_s0 (x : Int32) : x - 0 = x := Int32.sub_zero x
theorem L_dis84 (hN0 : 2097152 ≤ N) (a1 a2 a3 a4 a5 a6 : Nat → Int32) (p : Nat) : lL_discards_84 N v tx z a1 a2 a3 a4 a5 a6 (nI p) N gp 0 = some (dcp gp p 21) := by
  have h1 := for_seq (B := 21) (lL_discards_84 N v tx z a1 a2 a3 a4 a5 a6 (nI p)) (dcp gp p) (dcp gp p 21)
    (fun n => by rw [lL_discards_84, if_pos (by decide)])
    (fun n i hi => by
      have up : ∀ x, x = (if i % 7 = 0 then gp i else if gp i ≤ nI p then gp i else gp i - 1) → upd (dcp gp p i) i x = dcp gp p (i + 1) := fun x hx => by
        funext j
        rcases Nat.decEq j i with c | c
        · rw [pk_un c]
          unfold dcp
          by_cases c2 : j < i
          · rw [if_pos c2, if_pos (show j < i + 1 by omega)]
          · rw [if_neg c2, if_neg (show ¬ j < i + 1 by omega)]
        · subst c
          rw [pk_us, hx]
          unfold dcp
          rw [if_pos (show j < j + 1 by omega)]
      have self : dcp gp p i i = gp i := if_neg (by omega)
      have cI : ∀ {α : Type} (X : Option α), ck (nI i) 21 X = X := fun X => ckI hi (by decide)
      rw [lL_discards_84, if_neg (show ¬ (21 : Int32) ≤ nI i from nI_ge (b := 21) hi (by decide)), show nI i - nI i / 7 * 7 = nI (i % 7) from remI (d := 7) (by omega) (by decide) (by decide)]
      simp only [cI]
      rw [nI_clamp (by omega), self, i32_s0]
      by_cases c : i % 7 = 0
      · rw [c, if_pos (by decide), up _ (by rw [if_pos c])]
      · rw [if_neg (nI_nle (by omega) (by omega))]
        by_cases c2 : gp i ≤ nI p
        · rw [if_pos c2, up _ (by rw [if_neg c, if_pos c2])]
        · rw [if_neg c2, up _ (by rw [if_neg c, if_neg c2])]) (n := N) 0 (by omega) (by omega)
  have e0 : dcp gp p 0 = gp := funext fun j => if_neg (by omega)
  rw [e0] at h1
  exact h1
theorem PL.rm {K P : Nat → Int32} (hp : PL B K P gp) (hk : SKf B K P) (hB : B ≤ 10) {p : Nat} (hpB : p < B) (hf : K p = -1) : PL (B - 1) (gap K B p) (gap P B p) (dcp gp p 21) := by
  intro s hs
  have h6 := hk.2.2.2 (nI s) (st_ne hs)
  rw [hg_gap hpB hf (st_ne hs)]
  refine ⟨?_, fun b hb hK => ?_⟩
  · unfold dcp
    rw [if_pos (by omega), if_pos (by omega)]
    exact (hp s hs).1
  · have hb1 : b + 1 < B := by omega
    rw [gap_if hb1] at hK
    rw [gap_if hb1]
    by_cases c : b < p
    · rw [if_pos c] at hK ⊢
      obtain ⟨k, k1, k2, k3⟩ := (hp s hs).2 b (by omega) hK
      refine ⟨k, k1, k2, ?_⟩
      unfold dcp
      rw [if_pos (by omega), if_neg (by omega), k3, if_pos (nI_le (by omega) (by omega))]
    · rw [if_neg c] at hK ⊢
      obtain ⟨k, k1, k2, k3⟩ := (hp s hs).2 (b + 1) hb1 hK
      refine ⟨k, k1, k2, ?_⟩
      unfold dcp
      rw [if_pos (by omega), if_neg (by omega), k3, if_neg (nI_ge (by omega) (by omega)), nI_pred]
theorem LI.rm (h : LI B q v gl ge gw gh gt gn gp) {p : Nat} (hp : p < B) (hf : sK v p = -1) : LI (B - 1) q (rmS v B p) (mvd gl p 9) (mvd ge p 9) (mvd gw p 9) (mvd gh p 9) (mvd gt p 9) (upd gn 8 (nI (B - 1))) (dcp gp p 21) := by
  have hl := h.le
  refine ⟨⟨⟨by omega, rfl, pk_us, h.fk.rm hp⟩, fun j hj => (pk_un (by omega)).trans (h.1.2.1 j hj), ⟨(pk_un (by decide)).trans h.n4, (pk_un (by decide)).trans h.n5, (pk_un (by decide)).trans h.n6, (pk_un (by decide)).trans h.n7⟩, fun x hx => ⟨mvd_gap hl (fun c hc => h.l hc) (by omega), mvd_gap hl (fun c hc => h.e hc) (by omega), mvd_gap hl (fun c hc => h.w hc) (by omega), mvd_gap hl (fun c hc => h.h hc) (by omega), mvd_gap hl (fun c hc => h.t hc) (by omega)⟩⟩, h.2.1.rm h.2.2.1 hl hp hf, h.2.2.1.rm hp hf, h.2.2.2.rm hp⟩
theorem c_count0 (h : LI B q v gl ge gw gh gt gn gp) : fX4_count N v tx z 0 = some (nI B) := by
  unfold fX4_count
  rw [if_pos rfl, h.b]
theorem L_discards (hN0 : 2097152 ≤ N) (h : LI B q v gl ge gw gh gt gn gp) (hz : ZV z) {p : Nat} (hp : p < 10) : ACp q (fL_discards N v tx z gl ge gw gh gt gn gp (nI p)) := by
  have hl := h.le
  have c0 : fX4_count N v tx z 0 = some (nI B) := c_count0 h
  unfold fL_discards
  simp only [cn8]
  rw [cl8, h.n8]
  by_cases c : B ≤ p
  · rw [if_pos (nI_le c (by omega)), c0, bsome, if_pos rfl]
    exact ⟨_, _, _, _, _, _, _, _, _, _, rfl, hz, h⟩
  · rw [if_neg (nI_ge (by omega) (by omega)), L_where hN0 hl h.2.2.1 h.2.1 (by omega), bsome]
    by_cases cf : sK v p = -1
    · rw [if_pos ((wh_m1 hl h.2.2.1 (by omega)).mpr cf), L_moves hN0 gl hp, bsome, L_moves hN0 ge hp, bsome, L_moves hN0 gw hp, bsome, L_moves hN0 gh hp, bsome, L_moves hN0 gt hp, bsome, L_dis84 hN0, bsome]
      obtain ⟨z', hz', e1⟩ := push_ok N hz v
      have e2 : fX4_discard N v z (nI p) = some (rmS v B p, z', nI (B - 1)) := by
        unfold fX4_discard
        rw [ccb N h.b (by omega) (by omega), bsome, ccf N (by omega) cf, bsome, e1, bsome, X3_removeBlock hN0 h.b (by omega) (by omega), bsome]
        rfl
      have e3 : nI B - 1 = nI (B - 1) := by
        obtain ⟨C, rfl⟩ : ∃ C, B = C + 1 := ⟨B - 1, by omega⟩
        exact nI_pred C
      rw [e2, bsome, e3, if_pos pk_us.symm]
      exact ⟨_, _, _, _, _, _, _, _, _, _, rfl, hz', h.rm (by omega) cf⟩
    · rw [if_neg (fun e => cf ((wh_m1 hl h.2.2.1 (by omega)).mp e)), c0, bsome, if_pos rfl]
      exact ⟨_, _, _, _, _, _, _, _, _, _, rfl, hz, h⟩
end DI
