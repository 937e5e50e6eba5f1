/-! stacks: every block of a stack has a place of its own, under the height -/
def hg (K : Nat → Int32) (B : Nat) (s : Int32) : Nat := fb_ct (fun b => decide (K b = s)) B
theorem hgt_hg (v : VS) (B : Nat) (s : Int32) : hgt v B s = hg (sK v) B s := rfl
theorem hg_upd (K : Nat → Int32) {B b : Nat} (hb : b < B) (x t : Int32) : hg (upd K b x) B t + (if K b = t then 1 else 0) = hg K B t + (if x = t then 1 else 0) := by
  have h := fb_ct_upd (fun c => decide (K c = t)) (decide (x = t)) hb
  have e : (fun c => decide (upd K b x c = t)) = (fun c => if c = b then decide (x = t) else decide (K c = t)) := by
    funext c
    unfold upd
    by_cases q : c = b <;> simp [q]
  unfold hg
  rw [e]
  simpa using h
def SKf (B : Nat) (K P : Nat → Int32) : Prop :=
  (∀ b, b < B → K b = -1 ∨ K b = 0 ∨ K b = 1 ∨ K b = 2) ∧ (∀ b, b < B → K b ≠ -1 → ∃ p, p < hg K B (K b) ∧ P b = nI p) ∧
  (∀ s, s ≠ -1 → ∀ b c, b < B → c < B → K b = s → K c = s → P b = P c → b = c) ∧ (∀ s, s ≠ -1 → hg K B s ≤ 6)
theorem SKf.uni {B : Nat} {v : VS} (h : SKf B (sK v) (sP v)) {s : Int32} (hs : s ≠ -1) : Uni v B s := h.2.2.1 s hs
theorem SKf.place {B : Nat} {K P : Nat → Int32} (h : SKf B K P) {s : Int32} (hs : s ≠ -1) {k : Nat} (hk : k < hg K B s) (hB : B ≤ 20) : ∃ b, b < B ∧ K b = s ∧ P b = nI k := by
  have h1 : ∀ i, ∃ b, i < hg K B s → (b < B ∧ K b = s ∧ fb_ct (fun b => decide (K b = s)) b = i) := fun i => by
    by_cases c : i < hg K B s
    · obtain ⟨b, q1, q2, q3⟩ := fb_ct_kth c
      exact ⟨b, fun _ => ⟨q1, by simpa using q2, q3⟩⟩
    · exact ⟨0, fun q => absurd q c⟩
  have h2 : ∀ i, ∃ p, i < hg K B s → (p < hg K B s ∧ P (Classical.choose (h1 i)) = nI p) := fun i => by
    by_cases c : i < hg K B s
    · obtain ⟨q1, q2, q3⟩ := Classical.choose_spec (h1 i) c
      obtain ⟨p, q4, q5⟩ := h.2.1 _ q1 (by rw [q2]; exact hs)
      rw [q2] at q4
      exact ⟨p, fun _ => ⟨q4, q5⟩⟩
    · exact ⟨0, fun q => absurd q c⟩
  have hle : hg K B s ≤ B := fb_ct_le _ B
  obtain ⟨i, hi, e⟩ := fb_onto (n := hg K B s) (f := fun i => Classical.choose (h2 i)) (fun i hi => (Classical.choose_spec (h2 i) hi).1)
    (fun i j hij hj e => by
      have a1 := Classical.choose_spec (h1 i) (by omega)
      have a2 := Classical.choose_spec (h1 j) hj
      have b1 := Classical.choose_spec (h2 i) (by omega)
      have b2 := Classical.choose_spec (h2 j) hj
      have e2 := h.2.2.1 s hs _ _ a1.1 a2.1 a1.2.1 a2.2.1 (by rw [b1.2, b2.2]; exact congrArg nI e)
      have e3 := a1.2.2
      rw [e2, a2.2.2] at e3
      omega) hk
  have a1 := Classical.choose_spec (h1 i) hi
  have b1 := Classical.choose_spec (h2 i) hi
  exact ⟨_, a1.1, a1.2.1, by rw [b1.2]; exact congrArg nI e⟩
theorem SKf.wring {B : Nat} {K P : Nat → Int32} (h : SKf B K P) {s : Int32} (hs3 : s = 0 ∨ s = 1 ∨ s = 2) (hs : s ≠ -1) {b : Nat} (hb : b < B) (hB : B ≤ 20) (hf : K b = -1) (hh : hg K B s < 6) : SKf B (upd K b s) (upd P b (nI (hg K B s))) := by
  have hu : ∀ t, t ≠ -1 → hg (upd K b s) B t = hg K B t + (if s = t then 1 else 0) := fun t ht => by
    have := hg_upd K hb s t
    rw [hf, if_neg (fun e => ht e.symm)] at this
    exact this
  refine ⟨fun c hc => ?_, fun c hc hk => ?_, fun t ht c d hc hd kc kd e => ?_, fun t ht => ?_⟩
  · rcases Nat.decEq c b with q | q
    · rw [pk_un q]; exact h.1 c hc
    · subst q; rw [pk_us]; exact .inr hs3
  · rcases Nat.decEq c b with q | q
    · rw [pk_un q] at hk
      rw [pk_un q, pk_un q, hu _ hk]
      obtain ⟨p, q1, q2⟩ := h.2.1 c hc hk
      exact ⟨p, by omega, q2⟩
    · subst q
      rw [pk_us, pk_us, hu _ hs, if_pos rfl]
      exact ⟨_, Nat.lt_succ_self _, rfl⟩
  · rcases Nat.decEq c b with q | q <;> rcases Nat.decEq d b with q2 | q2
    · rw [pk_un q] at kc
      rw [pk_un q2] at kd
      rw [pk_un q, pk_un q2] at e
      exact h.2.2.1 t ht c d hc hd kc kd e
    · subst q2
      rw [pk_un q] at kc
      rw [pk_us] at kd
      rw [pk_un q, pk_us] at e
      obtain ⟨p, q1, q3⟩ := h.2.1 c hc (by rw [kc]; exact ht)
      rw [kc, ← kd] at q1
      rw [q3, nI_eq (by omega) (by omega)] at e
      omega
    · subst q
      rw [pk_un q2] at kd
      rw [pk_us] at kc
      rw [pk_un q2, pk_us] at e
      obtain ⟨p, q1, q3⟩ := h.2.1 d hd (by rw [kd]; exact ht)
      rw [kd, ← kc] at q1
      rw [q3, nI_eq (by omega) (by omega)] at e
      omega
    · rw [q, q2]
  · rw [hu t ht]
    have := h.2.2.2 t ht
    by_cases c : s = t
    · subst c; rw [if_pos rfl]; omega
    · rw [if_neg c]; omega
theorem SKf.off {B : Nat} {K P : Nat → Int32} (h : SKf B K P) {s : Int32} (hs : s ≠ -1) {b k : Nat} (hb : b < B) (hB : B ≤ 20) (hf : K b = s) (hk : hg K B s = k + 1) (hp : P b = nI k) : SKf B (upd K b (-1)) (upd P b (-1)) := by
  have hu : ∀ t, t ≠ -1 → hg (upd K b (-1)) B t + (if s = t then 1 else 0) = hg K B t := fun t ht => by
    have := hg_upd K hb (-1) t
    rw [hf, if_neg (c := ((-1 : Int32) = t)) (fun e => ht e.symm)] at this
    exact this
  have hle : hg K B s ≤ B := fb_ct_le _ B
  refine ⟨fun c hc => ?_, fun c hc hk2 => ?_, fun t ht c d hc hd kc kd e => ?_, fun t ht => ?_⟩
  · rcases Nat.decEq c b with q | q
    · rw [pk_un q]; exact h.1 c hc
    · subst q; rw [pk_us]; exact .inl rfl
  · rcases Nat.decEq c b with q | q
    · rw [pk_un q] at hk2
      rw [pk_un q, pk_un q]
      obtain ⟨p, q1, q2⟩ := h.2.1 c hc hk2
      refine ⟨p, ?_, q2⟩
      have h1 := hu _ hk2
      by_cases c1 : s = K c
      · rw [if_pos c1] at h1
        rw [← c1] at h1 q1 ⊢
        have : p ≠ k := fun e => q (h.2.2.1 s hs c b hc hb c1.symm hf (by rw [q2, hp, e]))
        omega
      · rw [if_neg c1] at h1
        omega
    · subst q
      rw [pk_us] at hk2
      exact absurd rfl hk2
  · rcases Nat.decEq c b with q | q
    · rcases Nat.decEq d b with q2 | q2
      · rw [pk_un q] at kc
        rw [pk_un q2] at kd
        rw [pk_un q, pk_un q2] at e
        exact h.2.2.1 t ht c d hc hd kc kd e
      · subst q2; rw [pk_us] at kd; exact absurd kd.symm ht
    · subst q; rw [pk_us] at kc; exact absurd kc.symm ht
  · have h1 := hu t ht
    have := h.2.2.2 t ht
    omega
/-! what a wringing or a taking off leaves of the numbers -/
def Rub (B : Nat) (v v' : VS) : Prop := sN v' = sN v ∧ sD v' = sD v ∧ sS v' = sS v ∧ (∀ c, sH v' c = sH v c ∨ sH v' c = hot (sH v c) (sS v 3)) ∧ ∀ c, sW v' c = sW v c ∨ sW v' c = sW v c + sS v 2
def sldN (v : VS) (b : Nat) : VS := uH v (upd (sH v) b (hot (sH v b) (sS v 3)))
def sldS (v : VS) (b c : Nat) : VS := uW (sldN v b) (upd (upd (sW v) b (sW v b + sS v 2)) c (sW v c + sS v 2))
theorem rub_N (B : Nat) (v : VS) (b : Nat) : Rub B v (sldN v b) := ⟨rfl, rfl, rfl, fun c => by
  rcases Nat.decEq c b with q | q
  · exact .inl (pk_un q)
  · subst q; exact .inr pk_us, fun c => .inl rfl⟩
theorem rub_S (B : Nat) (v : VS) (b d : Nat) : Rub B v (sldS v b d) := ⟨rfl, rfl, rfl, (rub_N B v b).2.2.2.1, fun c => by
  rcases Nat.decEq c d with q | q
  · rcases Nat.decEq c b with q2 | q2
    · exact .inl ((pk_un q).trans (pk_un q2))
    · subst q2; exact .inr ((pk_un q).trans pk_us)
  · subst q; exact .inr pk_us⟩
section SL
variable {N B : Nat} {v : VS}
theorem X3_slideN (N : Nat) (v : VS) {b : Nat} (h : b < 20) : fX3_slide N v (nI b) (-1) = some (sldN v b) := by
  unfold fX3_slide
  rw [cs3, cl3, X3_warm N v h, bsome, if_pos rfl]
  rfl
theorem X3_slideS (N : Nat) (v : VS) {b c : Nat} (h : b < 20) (hc : c < 20) (hbc : b ≠ c) : fX3_slide N v (nI b) (nI c) = some (sldS v b c) := by
  unfold fX3_slide
  rw [cs3, cl3, X3_warm N v h, bsome, if_neg (fun e => by have := congrArg Int32.toInt e; rw [nI_toInt (by omega)] at this; have h2 : (-1 : Int32).toInt = -1 := by decide +kernel
                                                          rw [h2] at this; omega)]
  rw [ckI h (by decide), cs2, ckI h (by decide), ckI hc (by decide), cs2, ckI hc (by decide), nI_clamp (by omega), nI_clamp (by omega), cl2]
  have e : upd (sW v) b (sW v b + sS v 2) c = sW v c := pk_un (fun q => hbc q.symm)
  unfold sldS
  rw [← e]
  rfl
theorem nI_m1 {c : Nat} (h : c < 2 ^ 31) : ¬ nI c = -1 := fun e => by
  have := congrArg Int32.toInt e
  rw [nI_toInt h] at this
  have h2 : (-1 : Int32).toInt = -1 := by decide +kernel
  rw [h2] at this
  omega
end SL
