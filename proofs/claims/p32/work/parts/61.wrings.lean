/-! the law's case beside the class's state; wringing and taking off on both sides -/
/-- a free block has no place -/
def FK (B : Nat) (K P : Nat → Int32) : Prop := ∀ b, b < B → K b = -1 → P b = -1
def LR (B : Nat) (v : VS) (gl ge gw gh gt gn : Nat → Int32) : Prop :=
  (B ≤ 10 ∧ sB v = nI B ∧ gn 8 = nI B ∧ FK B (sK v) (sP v)) ∧ (∀ j, j < 4 → gn j = sS v j) ∧ (gn 4 = sM v ∧ gn 5 = sG v ∧ gn 6 = sO v ∧ gn 7 = sR v) ∧
  ∀ b, b < B → gl b = sN v b ∧ ge b = sD v b ∧ gw b = sW v b ∧ gh b = sH v b ∧ gt b = sT v b
def LI (B q : Nat) (v : VS) (gl ge gw gh gt gn gp : Nat → Int32) : Prop := LR B v gl ge gw gh gt gn ∧ PL B (sK v) (sP v) gp ∧ SKf B (sK v) (sP v) ∧ BD B q v
section LIs
variable {B q : Nat} {v : VS} {gl ge gw gh gt gn gp : Nat → Int32}
theorem LI.le (h : LI B q v gl ge gw gh gt gn gp) : B ≤ 10 := h.1.1.1
theorem LI.b (h : LI B q v gl ge gw gh gt gn gp) : sB v = nI B := h.1.1.2.1
theorem LI.n8 (h : LI B q v gl ge gw gh gt gn gp) : gn 8 = nI B := h.1.1.2.2.1
theorem LI.fk (h : LI B q v gl ge gw gh gt gn gp) : FK B (sK v) (sP v) := h.1.1.2.2.2
theorem LI.n0 (h : LI B q v gl ge gw gh gt gn gp) : gn 0 = sS v 0 := h.1.2.1 0 (by decide)
theorem LI.n1 (h : LI B q v gl ge gw gh gt gn gp) : gn 1 = sS v 1 := h.1.2.1 1 (by decide)
theorem LI.n2 (h : LI B q v gl ge gw gh gt gn gp) : gn 2 = sS v 2 := h.1.2.1 2 (by decide)
theorem LI.n3 (h : LI B q v gl ge gw gh gt gn gp) : gn 3 = sS v 3 := h.1.2.1 3 (by decide)
theorem LI.n4 (h : LI B q v gl ge gw gh gt gn gp) : gn 4 = sM v := h.1.2.2.1.1
theorem LI.n5 (h : LI B q v gl ge gw gh gt gn gp) : gn 5 = sG v := h.1.2.2.1.2.1
theorem LI.n6 (h : LI B q v gl ge gw gh gt gn gp) : gn 6 = sO v := h.1.2.2.1.2.2.1
theorem LI.n7 (h : LI B q v gl ge gw gh gt gn gp) : gn 7 = sR v := h.1.2.2.1.2.2.2
theorem LI.l (h : LI B q v gl ge gw gh gt gn gp) {b : Nat} (hb : b < B) : gl b = sN v b := (h.1.2.2.2 b hb).1
theorem LI.e (h : LI B q v gl ge gw gh gt gn gp) {b : Nat} (hb : b < B) : ge b = sD v b := (h.1.2.2.2 b hb).2.1
theorem LI.w (h : LI B q v gl ge gw gh gt gn gp) {b : Nat} (hb : b < B) : gw b = sW v b := (h.1.2.2.2 b hb).2.2.1
theorem LI.h (h : LI B q v gl ge gw gh gt gn gp) {b : Nat} (hb : b < B) : gh b = sH v b := (h.1.2.2.2 b hb).2.2.2.1
theorem LI.t (h : LI B q v gl ge gw gh gt gn gp) {b : Nat} (hb : b < B) : gt b = sT v b := (h.1.2.2.2 b hb).2.2.2.2
theorem LI.err (h : LI B q v gl ge gw gh gt gn gp) {b : Nat} (hb : b < B) : ge b - gw b = err v b := by
  rw [h.e hb, h.w hb]
  rfl
theorem LI.mono (h : LI B q v gl ge gw gh gt gn gp) {q2 : Nat} (hq : q ≤ q2) : LI B q2 v gl ge gw gh gt gn gp := ⟨h.1, h.2.1, h.2.2.1, h.2.2.2.mono hq⟩
end LIs
theorem upd_at {f g : Nat → Int32} {b c : Nat} {x y : Int32} (h : f c = g c) (e : x = y) : upd f b x c = upd g b y c := by
  rcases Nat.decEq c b with q | q
  · exact (pk_un q).trans (h.trans (pk_un q).symm)
  · subst q; subst e; exact pk_us.trans pk_us.symm
theorem FK.wr {B s b : Nat} {K P : Nat → Int32} {y : Int32} (h : FK B K P) (hs : s < 3) : FK B (upd K b (nI s)) (upd P b y) := fun c hc hK => by
  rcases Nat.decEq c b with e | e
  · rw [pk_un e] at hK ⊢
    exact h c hc hK
  · subst e
    rw [pk_us] at hK
    exact absurd hK (nI_m1 (by omega))
theorem FK.of {B b : Nat} {K P : Nat → Int32} (h : FK B K P) : FK B (upd K b (-1)) (upd P b (-1)) := fun c hc hK => by
  rcases Nat.decEq c b with e | e
  · rw [pk_un e] at hK ⊢
    exact h c hc hK
  · subst e
    exact pk_us
theorem FK.ad {B : Nat} {K P : Nat → Int32} (h : FK B K P) : FK (B + 1) (upd K B (-1)) (upd P B (-1)) := fun c hc hK => by
  rcases Nat.decEq c B with e | e
  · rw [pk_un e] at hK ⊢
    exact h c (by omega) hK
  · subst e
    exact pk_us
theorem FK.rm {B p : Nat} {K P : Nat → Int32} (h : FK B K P) (hp : p < B) : FK (B - 1) (gap K B p) (gap P B p) := fun c hc hK => by
  have h1 : c + 1 < B := by omega
  rw [gap_if h1] at hK ⊢
  by_cases e : c < p
  · rw [if_pos e] at hK ⊢
    exact h c (by omega) hK
  · rw [if_neg e] at hK ⊢
    exact h (c + 1) h1 hK
section PLs
variable {B : Nat} {K P gp : Nat → Int32}
theorem PL.wring (hp : PL B K P gp) (hk : SKf B K P) (hB : B ≤ 10) {s b : Nat} (hs : s < 3) (hb : b < B) (hf : K b = -1) (hh : hg K B (nI s) < 6) :
    PL B (upd K b (nI s)) (upd P b (nI (hg K B (nI s)))) (upd (upd gp (7 * s) (nI (hg K B (nI s) + 1))) (7 * s + 1 + hg K B (nI s)) (nI b)) := by
  intro t ht
  have h6 := hk.2.2.2 (nI t) (st_ne ht)
  have hu := hg_upd K hb (nI s) (nI t)
  rw [hf, if_neg (fun e => st_ne ht e.symm)] at hu
  obtain ⟨p1, p2⟩ := hp t ht
  by_cases c : s = t
  · subst c
    rw [if_pos rfl] at hu
    have hu2 : hg (upd K b (nI s)) B (nI s) = hg K B (nI s) + 1 := hu
    refine ⟨?_, fun x hx hK => ?_⟩
    · rw [pk_un (by omega), pk_us, hu2]
    · rcases Nat.decEq x b with e | e
      · rw [pk_un e] at hK
        obtain ⟨k, k1, k2, k3⟩ := p2 x hx hK
        exact ⟨k, by omega, (pk_un e).trans k2, by rw [pk_un (by omega), pk_un (by omega)]; exact k3⟩
      · subst e
        exact ⟨_, by omega, pk_us, pk_us⟩
  · have c2 : nI s ≠ nI t := fun e => c ((nI_eq (by omega) (by omega)).mp e)
    rw [if_neg c2] at hu
    have hu2 : hg (upd K b (nI s)) B (nI t) = hg K B (nI t) := hu
    refine ⟨?_, fun x hx hK => ?_⟩
    · rw [pk_un (by omega), pk_un (by omega), hu2]
      exact p1
    · rcases Nat.decEq x b with e | e
      · rw [pk_un e] at hK
        obtain ⟨k, k1, k2, k3⟩ := p2 x hx hK
        exact ⟨k, by omega, (pk_un e).trans k2, by rw [pk_un (by omega), pk_un (by omega)]; exact k3⟩
      · subst e
        rw [pk_us] at hK
        exact absurd hK c2
theorem PL.off (hp : PL B K P gp) (hk : SKf B K P) (hB : B ≤ 10) {s b k : Nat} (hs : s < 3) (hb : b < B) (hf : K b = nI s) (hh : hg K B (nI s) = k + 1) (hpb : P b = nI k) :
    PL B (upd K b (-1)) (upd P b (-1)) (upd gp (7 * s) (nI k)) := by
  intro t ht
  have h6 := hk.2.2.2 (nI t) (st_ne ht)
  have h6s := hk.2.2.2 (nI s) (st_ne hs)
  have hu := hg_upd K hb (-1) (nI t)
  rw [hf, if_neg (c := ((-1 : Int32) = nI t)) (fun e => st_ne ht e.symm)] at hu
  obtain ⟨p1, p2⟩ := hp t ht
  by_cases c : s = t
  · subst c
    rw [if_pos rfl] at hu
    have hu2 : hg (upd K b (-1)) B (nI s) = k := by omega
    refine ⟨?_, fun x hx hK => ?_⟩
    · rw [pk_us, hu2]
    · rcases Nat.decEq x b with e | e
      · rw [pk_un e] at hK
        obtain ⟨j, k1, k2, k3⟩ := p2 x hx hK
        have : j ≠ k := fun z => e (hk.2.2.1 _ (st_ne hs) x b hx hb hK hf (by rw [k2, hpb, z]))
        exact ⟨j, by omega, (pk_un e).trans k2, by rw [pk_un (by omega)]; exact k3⟩
      · subst e
        rw [pk_us] at hK
        exact absurd hK.symm (st_ne hs)
  · have c2 : nI s ≠ nI t := fun e => c ((nI_eq (by omega) (by omega)).mp e)
    rw [if_neg c2] at hu
    have hu2 : hg (upd K b (-1)) B (nI t) = hg K B (nI t) := hu
    refine ⟨?_, fun x hx hK => ?_⟩
    · rw [pk_un (by omega), hu2]
      exact p1
    · rcases Nat.decEq x b with e | e
      · rw [pk_un e] at hK
        obtain ⟨j, k1, k2, k3⟩ := p2 x hx hK
        exact ⟨j, by omega, (pk_un e).trans k2, by rw [pk_un (by omega)]; exact k3⟩
      · subst e
        rw [pk_us] at hK
        exact absurd hK.symm (st_ne ht)
end PLs
theorem hot_law (x y : Int32) : (if (1000 : Int32) ≤ x + y then some (1000 : Int32) else some (x + y)) = some (hot x y) := by
  unfold hot jmin
  by_cases c : (1000 : Int32) ≤ x + y
  · rw [if_pos c]
    by_cases c2 : (1000 : Int32) < x + y
    · rw [if_pos c2]
    · rw [if_neg c2, Int32.le_antisymm (Int32.not_lt.mp c2) c]
  · rw [if_neg c, if_neg (fun q => c (Int32.le_of_lt q))]
section RU
variable {N : Nat} {gw gh gn gp : Nat → Int32}
theorem L_rubs1 (N : Nat) {s t : Nat} (hs : s < 3) (ht : t < 10) (h0 : gp (7 * s) = nI 1) (h1 : gp (7 * s + 1) = nI t) : fL_rubs N gw gh gn gp (nI s) = some (gw, upd gh t (hot (gh t) (gn 3))) := by
  have c7 : ∀ {α : Type} (X : Option α), ck (nI (7 * s)) 21 X = X := fun X => ckI (by omega) (by decide)
  have c8 : ∀ {α : Type} (X : Option α), ck (nI (7 * s + 1)) 21 X = X := fun X => ckI (by omega) (by decide)
  have ct : ∀ {α : Type} (X : Option α), ck (nI t) 10 X = X := fun X => ckI ht (by decide)
  have k7 : (nI (7 * s)).toNatClampNeg = 7 * s := nI_clamp (by omega)
  have k8 : (nI (7 * s + 1)).toNatClampNeg = 7 * s + 1 := nI_clamp (by omega)
  have kt : (nI t).toNatClampNeg = t := nI_clamp (by omega)
  unfold fL_rubs
  simp only [nI7, c7, k7, h0, nI_add, c8, k8, h1, ct, kt, cn3, cl3]
  rw [hot_law, bsome, if_pos (by decide)]
theorem L_rubs2 (N : Nat) {s m t c : Nat} (hs : s < 3) (hm : m < 6) (ht : t < 10) (hc : c < 10) (hct : c ≠ t) (h0 : gp (7 * s) = nI (m + 1)) (hm0 : 0 < m) (h1 : gp (7 * s + (m + 1)) = nI t) (h2 : gp (7 * s + m) = nI c) :
    fL_rubs N gw gh gn gp (nI s) = some (upd (upd gw t (gw t + gn 2)) c (gw c + gn 2), upd gh t (hot (gh t) (gn 3))) := by
  have c7 : ∀ {α : Type} (X : Option α), ck (nI (7 * s)) 21 X = X := fun X => ckI (by omega) (by decide)
  have c8 : ∀ {α : Type} (X : Option α), ck (nI (7 * s + (m + 1))) 21 X = X := fun X => ckI (by omega) (by decide)
  have c9 : ∀ {α : Type} (X : Option α), ck (nI (7 * s + m)) 21 X = X := fun X => ckI (by omega) (by decide)
  have ct : ∀ {α : Type} (X : Option α), ck (nI t) 10 X = X := fun X => ckI ht (by decide)
  have cc : ∀ {α : Type} (X : Option α), ck (nI c) 10 X = X := fun X => ckI hc (by decide)
  have k7 : (nI (7 * s)).toNatClampNeg = 7 * s := nI_clamp (by omega)
  have k8 : (nI (7 * s + (m + 1))).toNatClampNeg = 7 * s + (m + 1) := nI_clamp (by omega)
  have k9 : (nI (7 * s + m)).toNatClampNeg = 7 * s + m := nI_clamp (by omega)
  have kt : (nI t).toNatClampNeg = t := nI_clamp (by omega)
  have kc : (nI c).toNatClampNeg = c := nI_clamp (by omega)
  have e9 : nI (7 * s + (m + 1)) - 1 = nI (7 * s + m) := nI_pred (7 * s + m)
  unfold fL_rubs
  simp only [nI7, c7, k7, h0, nI_add, c8, k8, h1, ct, kt, cn3, cl3, e9, c9, k9, h2, cc, kc, cn2, cl2]
  rw [hot_law, bsome, if_neg (show ¬ nI (m + 1) ≤ (1 : Int32) from nI_ge (a := 1) (by omega) (by omega)), pk_un hct]
end RU
section LW
variable {N B q : Nat} {v : VS} {gl ge gw gh gt gn gp : Nat → Int32}
theorem L_reason (hN0 : 2097152 ≤ N) (h : LI B q v gl ge gw gh gt gn gp) {s b : Nat} (hs : s < 3) (hb : b < B) : fL_reason N ge gw gh gn gp (nI s) (nI b) = some (rsn v B (nI s) b) := by
  have hl := h.le
  have hhl := hgt_le v B (nI s)
  have e5 : (nI (hgt v B (nI s)) ≤ 5) ↔ hgt v B (nI s) < 6 := (nI_leI (b := 5) (by omega) (by decide)).trans (by omega)
  unfold fL_reason rsn
  rw [L_where hN0 hl h.2.2.1 h.2.1 hb, bsome, nI7, ckI (by omega) (by decide), nI_clamp (by omega), (h.2.1 s hs).1, ckI (by omega) (by decide), cn1, nI_clamp (by omega), cl1, h.h hb, h.n1, L_grade N ge gw (by omega), bsome, h.err hb, ← hgt_hg]
  simp only [e5]
  by_cases c1 : sK v b = -1
  · rw [if_pos ((wh_m1 hl h.2.2.1 hb).mpr c1), if_pos c1]
    by_cases c2 : hgt v B (nI s) < 6
    · rw [if_pos c2, if_pos c2]
      by_cases c3 : sH v b ≤ sS v 1
      · rw [if_pos c3, if_pos c3]
        rcases grd_is (err v b) with e | e | e | e <;> rw [e] <;> decide
      · rw [if_neg c3, if_neg c3]
    · rw [if_neg c2, if_neg c2]
  · rw [if_neg (fun z => c1 ((wh_m1 hl h.2.2.1 hb).mp z)), if_neg c1]
/-- the class's state behind a wringing; v1: what the sliding left -/
def wrV (v v1 : VS) (B s b : Nat) : VS := uG (uT (uK (uP v1 (upd (sP v) b (nI (hgt v B (nI s))))) (upd (sK v) b (nI s))) (upd (sT v) b (sT v b + 1))) (sG v + 1)
theorem X3_wr0 (hN0 : 2097152 ≤ N) (hB : sB v = nI B) (hl : B ≤ 10) (hk : SKf B (sK v) (sP v)) {s b : Nat} (hs : s < 3) (hi : b < B) (h0 : rsn v B (nI s) b = 0) :
    ∃ v1, ((hgt v B (nI s) = 0 ∧ v1 = sldN v b) ∨ ∃ c k, hgt v B (nI s) = k + 1 ∧ c < B ∧ sK v c = nI s ∧ sP v c = nI k ∧ c ≠ b ∧ v1 = sldS v b c) ∧ fX3_tryToWring N v (nI s) (nI b) = some (wrV v v1 B s b, 0) := by
  obtain ⟨hf, hh⟩ := rsn_0 h0
  have hne := st_ne hs
  have hhl := hgt_le v B (nI s)
  have fin : ∀ x v1, fX3_blockAt N v (nI s) (nI (hgt v B (nI s)) - 1) = some x → fX3_slide N v (nI b) x = some v1 → sK v1 = sK v → sP v1 = sP v → sT v1 = sT v → sG v1 = sG v → fX3_tryToWring N v (nI s) (nI b) = some (wrV v v1 B s b, 0) := by
    intro x v1 hx1 k1 k5 k6 k7 k8
    unfold fX3_tryToWring fX3_putOnTop
    rw [X3_reason hN0 hB (by omega) (nI s) hi, h0, bsome, if_pos rfl, X3_heightOf hN0 hB (by omega), bsome, hx1, bsome, k1, bsome, ckI (by omega) (by decide), ckI (by omega) (by decide), ckI (by omega) (by decide), ckI (by omega) (by decide), bsome, nI_clamp (by omega), k5, k6, k7, k8]
    rfl
  rcases hgc : hgt v B (nI s) with _ | k
  · refine ⟨sldN v b, .inl ⟨rfl, rfl⟩, ?_⟩
    refine fin (-1) _ ?_ (X3_slideN N v (by omega)) rfl rfl rfl rfl
    rw [hgc]
    rcases X3_blockAt hN0 hB (by omega) (nI s) (nI 0 - 1) with ⟨c, q1, q2⟩ | ⟨q1, q2⟩
    · obtain ⟨p, q3, -⟩ := hk.2.1 c q1.1 (by rw [q1.2.1]; exact hne)
      rw [q1.2.1] at q3
      exact absurd q3 (by show ¬ p < hgt v B (nI s); omega)
    · exact q2
  · obtain ⟨t, ht1, ht2, ht3⟩ := hk.place hne (show k < hg (sK v) B (nI s) by rw [← hgt_hg]; omega) (by omega)
    have hbt : t ≠ b := fun e => by rw [e, hf] at ht2; exact hne ht2.symm
    refine ⟨sldS v b t, .inr ⟨t, k, rfl, ht1, ht2, ht3, hbt, rfl⟩, ?_⟩
    refine fin (nI t) _ ?_ (X3_slideS N v (by omega) (by omega) (fun e => hbt e.symm)) rfl rfl rfl rfl
    rw [hgc, nI_pred]
    rcases X3_blockAt hN0 hB (by omega) (nI s) (nI k) with ⟨c, q1, q2⟩ | ⟨q1, q2⟩
    · have e := SKf.uni hk hne c t q1.1 ht1 q1.2.1 ht2 (q1.2.2.trans ht3.symm)
      rw [q2, e]
    · exact absurd ⟨ht1, ht2, ht3⟩ (q1 t)
theorem L_wrings (hN0 : 2097152 ≤ N) (hq : q ≤ 900000) (h : LI B q v gl ge gw gh gt gn gp) {s b : Nat} (hs : s < 3) (hb : b < B) :
    ∃ gw' gh' gt' gn' gp' v', fL_wrings N ge gw gh gt gn gp (nI s) (nI b) = some (gw', gh', gt', gn', gp', rsn v B (nI s) b) ∧ fX3_tryToWring N v (nI s) (nI b) = some (v', rsn v B (nI s) b) ∧ LI B (q + 20) v' gl ge gw' gh' gt' gn' gp' := by
  have hl := h.le
  have hhl := hgt_le v B (nI s)
  have hne := st_ne hs
  have hk := h.2.2.1
  by_cases h0 : rsn v B (nI s) b = 0
  · obtain ⟨v1, hv1, hX⟩ := X3_wr0 hN0 h.b hl hk hs hb h0
    obtain ⟨hf, hh⟩ := rsn_0 h0
    have hg0 : gp (7 * s) = nI (hgt v B (nI s)) := (h.2.1 s hs).1
    -- the law's row of stacks behind it
    have hgp0 : upd (upd gp (7 * s) (nI (hgt v B (nI s) + 1))) (7 * s + (hgt v B (nI s) + 1)) (nI b) (7 * s) = nI (hgt v B (nI s) + 1) := by rw [pk_un (by omega), pk_us]
    have hgp1 : upd (upd gp (7 * s) (nI (hgt v B (nI s) + 1))) (7 * s + (hgt v B (nI s) + 1)) (nI b) (7 * s + (hgt v B (nI s) + 1)) = nI b := pk_us
    have hPL := h.2.1.wring hk hl hs hb hf hh
    rw [← hgt_hg, show 7 * s + 1 + hgt v B (nI s) = 7 * s + (hgt v B (nI s) + 1) by omega] at hPL
    have hSK : SKf B (sK (wrV v v1 B s b)) (sP (wrV v v1 B s b)) := hk.wring (st_3 hs) hne hb (by omega) hf hh
    have step : ∀ gw' gh', fL_rubs N gw gh gn (upd (upd gp (7 * s) (nI (hgt v B (nI s) + 1))) (7 * s + (hgt v B (nI s) + 1)) (nI b)) (nI s) = some (gw', gh') →
        fL_wrings N ge gw gh gt gn gp (nI s) (nI b) = some (gw', gh', upd gt b (gt b + 1), upd gn 5 (gn 5 + 1), upd (upd gp (7 * s) (nI (hgt v B (nI s) + 1))) (7 * s + (hgt v B (nI s) + 1)) (nI b), 0) := by
      intro gw' gh' hr
      have c7 : ∀ {α : Type} (X : Option α), ck (nI (7 * s)) 21 X = X := fun X => ckI (by omega) (by decide)
      have c8 : ∀ {α : Type} (X : Option α), ck (nI (7 * s + (hgt v B (nI s) + 1))) 21 X = X := fun X => ckI (by omega) (by decide)
      have cb : ∀ {α : Type} (X : Option α), ck (nI b) 10 X = X := fun X => ckI (by omega) (by decide)
      have k7 : (nI (7 * s)).toNatClampNeg = 7 * s := nI_clamp (by omega)
      have k8 : (nI (7 * s + (hgt v B (nI s) + 1))).toNatClampNeg = 7 * s + (hgt v B (nI s) + 1) := nI_clamp (by omega)
      have kb : (nI b).toNatClampNeg = b := nI_clamp (by omega)
      have eu : upd gp (7 * s) (nI (hgt v B (nI s) + 1)) (7 * s) = nI (hgt v B (nI s) + 1) := pk_us
      unfold fL_wrings
      rw [L_reason hN0 h hs hb, h0, bsome, if_pos (by decide)]
      simp only [nI7, c7, k7, hg0, nI_1, eu, nI_add, c8, k8]
      rw [hr, bsome]
      simp only [cb, kb, cn5, cl5]
    rw [h0]
    rcases hv1 with ⟨z0, rfl⟩ | ⟨c, k, z1, c1, c2, c3, c4, rfl⟩
    · have hr := L_rubs1 (gw := gw) (gh := gh) (gn := gn) N hs (show b < 10 by omega) (hgp0.trans (by rw [z0])) (by rw [z0] at hgp1 ⊢; exact hgp1)
      refine ⟨_, _, _, _, _, _, step _ _ hr, hX, ⟨⟨⟨hl, h.b, (pk_un (by decide)).trans h.n8, h.fk.wr hs⟩, fun j hj => (pk_un (by omega)).trans (h.1.2.1 j hj), ⟨(pk_un (by decide)).trans h.n4, pk_us.trans (by rw [h.n5]; rfl), (pk_un (by decide)).trans h.n6, (pk_un (by decide)).trans h.n7⟩, fun x hx => ⟨h.l hx, h.e hx, h.w hx, upd_at (h.h hx) (by rw [h.h hb, h.n3]), upd_at (h.t hx) (by rw [h.t hb])⟩⟩, hPL, hSK, BD.rub (by omega) h.2.2.2 (rub_N B v b)⟩⟩
    · have hgp2 : upd (upd gp (7 * s) (nI (hgt v B (nI s) + 1))) (7 * s + (hgt v B (nI s) + 1)) (nI b) (7 * s + hgt v B (nI s)) = nI c := by
        rw [pk_un (by omega), pk_un (by omega)]
        obtain ⟨j, j1, j2, j3⟩ := (h.2.1 s hs).2 c c1 c2
        rw [← hgt_hg] at j1
        have e : j = k := (nI_eq (by omega) (by omega)).mp (j2.symm.trans c3)
        subst e
        rw [z1, show 7 * s + (j + 1) = 7 * s + 1 + j by omega]
        exact j3
      have hr := L_rubs2 (gw := gw) (gh := gh) (gn := gn) N hs hh (show b < 10 by omega) (show c < 10 by omega) c4 hgp0 (by omega) hgp1 hgp2
      refine ⟨_, _, _, _, _, _, step _ _ hr, hX, ⟨⟨⟨hl, h.b, (pk_un (by decide)).trans h.n8, h.fk.wr hs⟩, fun j hj => (pk_un (by omega)).trans (h.1.2.1 j hj), ⟨(pk_un (by decide)).trans h.n4, pk_us.trans (by rw [h.n5]; rfl), (pk_un (by decide)).trans h.n6, (pk_un (by decide)).trans h.n7⟩, fun x hx => ⟨h.l hx, h.e hx, upd_at (upd_at (h.w hx) (by rw [h.w hb, h.n2])) (by rw [h.w c1, h.n2]), upd_at (h.h hx) (by rw [h.h hb, h.n3]), upd_at (h.t hx) (by rw [h.t hb])⟩⟩, hPL, hSK, BD.rub (by omega) h.2.2.2 (rub_S B v b c)⟩⟩
  · refine ⟨gw, gh, gt, upd gn 7 (gn 7 + 1), gp, uR v (sR v + 1), ?_, ?_, ⟨⟨⟨hl, h.b, (pk_un (by decide)).trans h.n8, h.fk⟩, fun j hj => (pk_un (by omega)).trans (h.1.2.1 j hj), ⟨(pk_un (by decide)).trans h.n4, (pk_un (by decide)).trans h.n5, (pk_un (by decide)).trans h.n6, pk_us.trans (by rw [h.n7]; rfl)⟩, h.1.2.2.2⟩, h.2.1, hk, (show BD B (q + 20) v from h.2.2.2.mono (by omega))⟩⟩
    · unfold fL_wrings
      rw [L_reason hN0 h hs hb, bsome, if_neg (fun z => h0 ((rsn_le v B (nI s) b).mp z)), cn7, cn7, cl7]
    · unfold fX3_tryToWring
      rw [X3_reason hN0 h.b (by omega) (nI s) hb, bsome, if_neg h0]
      rfl
theorem L_off (hN0 : 2097152 ≤ N) (hq : q ≤ 900000) (h : LI B q v gl ge gw gh gt gn gp) {s k : Nat} (hs : s < 3) (hh : hgt v B (nI s) = k + 1) :
    ∃ t gw' gh' v', t < B ∧ gp (7 * s + (k + 1)) = nI t ∧ fL_rubs N gw gh gn gp (nI s) = some (gw', gh') ∧ fX3_takeTopOff N v (nI s) = some (v', nI t) ∧ LI B (q + 20) v' gl ge gw' gh' gt (upd gn 6 (gn 6 + 1)) (upd gp (7 * s) (nI k)) := by
  have hl := h.le
  have hhl := hgt_le v B (nI s)
  have hne := st_ne hs
  have hk := h.2.2.1
  have h6 := hk.2.2.2 _ hne
  rw [← hgt_hg] at h6
  obtain ⟨t, t1, t2, t3, t4⟩ := h.2.1.at hk (by omega) hs (show k < hg (sK v) B (nI s) by rw [← hgt_hg]; omega)
  have t5 : gp (7 * s + (k + 1)) = nI t := by rw [show 7 * s + (k + 1) = 7 * s + 1 + k by omega]; exact t4
  have hg0 : gp (7 * s) = nI (k + 1) := by rw [(h.2.1 s hs).1, ← hgt_hg, hh]
  have hPL := h.2.1.off hk hl hs t1 t2 hh t3
  have hSK := hk.off hne t1 (by omega) t2 hh t3
  have top : fX3_blockAt N v (nI s) (nI k) = some (nI t) := by
    rcases X3_blockAt hN0 h.b (by omega) (nI s) (nI k) with ⟨c, q1, q2⟩ | ⟨q1, q2⟩
    · rw [q2, SKf.uni hk hne c t q1.1 t1 q1.2.1 t2 (q1.2.2.trans t3.symm)]
    · exact absurd ⟨t1, t2, t3⟩ (q1 t)
  have fin : ∀ y v1, fX3_blockAt N v (nI s) (nI k - 1) = some y → fX3_slide N v (nI t) y = some v1 → sK v1 = sK v → sP v1 = sP v → sO v1 = sO v → fX3_takeTopOff N v (nI s) = some (uO (uP (uK v1 (upd (sK v) t (-1))) (upd (sP v) t (-1))) (sO v + 1), nI t) := by
    intro y v1 hy1 k1 k5 k6 k7
    unfold fX3_takeTopOff
    rw [X3_heightOf hN0 h.b (by omega), bsome, hh, nI_pred, top, bsome, if_neg (nI_m1 (by omega)), m12, hy1, bsome, k1, bsome, ckI (by omega) (by decide), ckI (by omega) (by decide), nI_clamp (by omega), k5, k6, k7]
    rfl
  rcases k with _ | k
  · have hr := L_rubs1 (gw := gw) (gh := gh) (gn := gn) N hs (show t < 10 by omega) hg0 t5
    refine ⟨t, _, _, _, t1, t5, hr, fin (-1) (sldN v t) ?_ (X3_slideN N v (by omega)) rfl rfl rfl, ⟨⟨⟨hl, h.b, (pk_un (by decide)).trans h.n8, h.fk.of⟩, fun j hj => (pk_un (by omega)).trans (h.1.2.1 j hj), ⟨(pk_un (by decide)).trans h.n4, (pk_un (by decide)).trans h.n5, pk_us.trans (by rw [h.n6]; rfl), (pk_un (by decide)).trans h.n7⟩, fun x hx => ⟨h.l hx, h.e hx, h.w hx, upd_at (h.h hx) (by rw [h.h t1, h.n3]), h.t hx⟩⟩, hPL, hSK, BD.rub (by omega) h.2.2.2 (rub_N B v t)⟩⟩
    rcases X3_blockAt hN0 h.b (by omega) (nI s) (nI 0 - 1) with ⟨c, q1, q2⟩ | ⟨q1, q2⟩
    · obtain ⟨p, -, q4⟩ := hk.2.1 c q1.1 (by rw [q1.2.1]; exact hne)
      obtain ⟨p2, q5⟩ : ∃ p2, hk.2.1 c q1.1 (by rw [q1.2.1]; exact hne) = p2 := ⟨_, rfl⟩
      obtain ⟨p3, q6, q7⟩ := hk.2.1 c q1.1 (by rw [q1.2.1]; exact hne)
      rw [q1.2.1] at q6
      have q8 : nI p3 = nI 0 - 1 := q7.symm.trans q1.2.2
      exact absurd q8 (nI_m1 (c := p3) (by rw [← hgt_hg] at q6; omega))
    · exact q2
  · obtain ⟨c, c1, c2, c3, c4⟩ := h.2.1.at hk (by omega) hs (show k < hg (sK v) B (nI s) by rw [← hgt_hg]; omega)
    have hct : c ≠ t := fun e => by
      rw [e, t3, nI_eq (by omega) (by omega)] at c3
      omega
    have hr := L_rubs2 (gw := gw) (gh := gh) (gn := gn) N hs (show k + 1 < 6 by omega) (show t < 10 by omega) (show c < 10 by omega) hct hg0 (by omega) t5 (by rw [show 7 * s + (k + 1) = 7 * s + 1 + k by omega]; exact c4)
    refine ⟨t, _, _, _, t1, t5, hr, fin (nI c) (sldS v t c) ?_ (X3_slideS N v (by omega) (by omega) (fun e => hct e.symm)) rfl rfl rfl, ⟨⟨⟨hl, h.b, (pk_un (by decide)).trans h.n8, h.fk.of⟩, fun j hj => (pk_un (by omega)).trans (h.1.2.1 j hj), ⟨(pk_un (by decide)).trans h.n4, (pk_un (by decide)).trans h.n5, pk_us.trans (by rw [h.n6]; rfl), (pk_un (by decide)).trans h.n7⟩, fun x hx => ⟨h.l hx, h.e hx, upd_at (upd_at (h.w hx) (by rw [h.w t1, h.n2])) (by rw [h.w c1, h.n2]), upd_at (h.h hx) (by rw [h.h t1, h.n3]), h.t hx⟩⟩, hPL, hSK, BD.rub (by omega) h.2.2.2 (rub_S B v t c)⟩⟩
    rw [nI_pred]
    rcases X3_blockAt hN0 h.b (by omega) (nI s) (nI k) with ⟨x, q1, q2⟩ | ⟨q1, q2⟩
    · rw [q2, SKf.uni hk hne x c q1.1 c1 q1.2.1 c2 (q1.2.2.trans c3.symm)]
    · exact absurd ⟨c1, c2, c3⟩ (q1 c)
end LW
