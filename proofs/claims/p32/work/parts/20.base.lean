/-! plain facts: numbers, loops -/
theorem nI_mul (a b : Nat) : nI a * nI b = nI (a * b) := (Int32.ofNat_mul a b).symm
theorem ck_n {α : Type} {k n : Nat} {X : Option α} (h : k < n) (hn : n < 2 ^ 31) : ck (nI k) n X = X := by
  unfold ck; rw [if_neg (nI_in h hn)]
theorem ix (b w : Nat) : (9 + (7 * nI b)) + nI w = nI (9 + 7 * b + w) := by
  show (nI 9 + (nI 7 * nI b)) + nI w = _
  rw [nI_mul, nI_add, nI_add]
/-- a fold upwards -/
def rng {α : Type} (g : Nat → α → α) : Nat → α → α
  | 0, a => a
  | n + 1, a => g n (rng g n a)
theorem for_pure {α : Type} {B : Nat} (L : Nat → α → Int32 → Option α) (g : Nat → α → α)
    (hx : ∀ n a, L (n + 1) a (nI B) = some a) (hs : ∀ n a i, i < B → L (n + 1) a (nI i) = L n (g i a) (nI i + 1)) {n : Nat} (hn : B < n) (a : α) :
    L n a 0 = some (rng g B a) := by
  have key : ∀ k i n, i + k = B → k < n → L n (rng g i a) (nI i) = some (rng g B a) := by
    intro k
    induction k with
    | zero =>
      intro i n hi hk
      obtain ⟨m, rfl⟩ : ∃ m, n = m + 1 := ⟨n - 1, by omega⟩
      have e : i = B := by omega
      subst e
      exact hx m _
    | succ k ih =>
      intro i n hi hk
      obtain ⟨m, rfl⟩ : ∃ m, n = m + 1 := ⟨n - 1, by omega⟩
      rw [hs m _ i (by omega), nI_1]
      exact ih (i + 1) m (by omega) (by omega)
  exact key B 0 n (by omega) hn
theorem for_inv {α : Type} {B : Nat} (L : Nat → α → Int32 → Option α) (g : Nat → α → α) (I : Nat → α → Prop)
    (hx : ∀ n a, I B a → L (n + 1) a (nI B) = some a) (hs : ∀ n a i, i < B → I i a → L (n + 1) a (nI i) = L n (g i a) (nI i + 1) ∧ I (i + 1) (g i a)) {n : Nat} (hn : B < n) (a : α) (h0 : I 0 a) :
    L n a 0 = some (rng g B a) ∧ I B (rng g B a) := by
  have key : ∀ k i n, i + k = B → k < n → I i (rng g i a) → L n (rng g i a) (nI i) = some (rng g B a) ∧ I B (rng g B a) := by
    intro k
    induction k with
    | zero =>
      intro i n hi hk hI
      obtain ⟨m, rfl⟩ : ∃ m, n = m + 1 := ⟨n - 1, by omega⟩
      have e : i = B := by omega
      subst e
      exact ⟨hx m _ hI, hI⟩
    | succ k ih =>
      intro i n hi hk hI
      obtain ⟨m, rfl⟩ : ∃ m, n = m + 1 := ⟨n - 1, by omega⟩
      obtain ⟨h1, h2⟩ := hs m _ i (by omega) hI
      rw [h1, nI_1]
      exact ih (i + 1) m (by omega) (by omega) h2
  exact key B 0 n (by omega) hn h0
/-- a loop whose turns keep an invariant; what it hands on is existential -/
theorem for_ex {α ρ : Type} {B : Nat} (L : Nat → α → Int32 → Option ρ) (I : Nat → α → Prop) (Q : ρ → Prop)
    (hx : ∀ n a, I B a → ∃ r, L (n + 1) a (nI B) = some r ∧ Q r)
    (hs : ∀ n a i, i < B → I i a → (∃ a', L (n + 1) a (nI i) = L n a' (nI i + 1) ∧ I (i + 1) a') ∨ ∃ r, L (n + 1) a (nI i) = some r ∧ Q r) {n : Nat} (i0 : Nat) (h0 : i0 ≤ B) (hn : B - i0 < n) (a : α) (hI : I i0 a) :
    ∃ r, L n a (nI i0) = some r ∧ Q r := by
  have key : ∀ k i n a, i + k = B → k < n → I i a → ∃ r, L n a (nI i) = some r ∧ Q r := by
    intro k
    induction k with
    | zero =>
      intro i n a hi hk hI
      obtain ⟨m, rfl⟩ : ∃ m, n = m + 1 := ⟨n - 1, by omega⟩
      have e : i = B := by omega
      subst e
      exact hx m _ hI
    | succ k ih =>
      intro i n a hi hk hI
      obtain ⟨m, rfl⟩ : ∃ m, n = m + 1 := ⟨n - 1, by omega⟩
      rcases hs m _ i (by omega) hI with ⟨a', h1, h2⟩ | h
      · rw [h1, nI_1]
        exact ih (i + 1) m a' (by omega) (by omega) h2
      · exact h
  exact key (B - i0) i0 n a (by omega) (by omega) hI
theorem for_find {ρ : Type} {B : Nat} (L : Nat → Int32 → Option ρ) (p : Nat → Prop) (e : ρ) (g : Nat → ρ)
    (hx : ∀ n, L (n + 1) (nI B) = some e) (hy : ∀ n i, i < B → p i → L (n + 1) (nI i) = some (g i)) (hs : ∀ n i, i < B → ¬ p i → L (n + 1) (nI i) = L n (nI i + 1)) {n : Nat} (hn : B < n) :
    (∃ i, i < B ∧ p i ∧ (∀ j, j < i → ¬ p j) ∧ L n 0 = some (g i)) ∨ ((∀ i, i < B → ¬ p i) ∧ L n 0 = some e) := by
  have key : ∀ k i n, i + k = B → k < n → (∀ j, j < i → ¬ p j) → (∃ q, q < B ∧ p q ∧ (∀ j, j < q → ¬ p j) ∧ L n (nI i) = some (g q)) ∨ ((∀ i, i < B → ¬ p i) ∧ L n (nI i) = some e) := by
    intro k
    induction k with
    | zero =>
      intro i n hi hk h
      obtain ⟨m, rfl⟩ : ∃ m, n = m + 1 := ⟨n - 1, by omega⟩
      have e : i = B := by omega
      subst e
      exact .inr ⟨h, hx m⟩
    | succ k ih =>
      intro i n hi hk h
      obtain ⟨m, rfl⟩ : ∃ m, n = m + 1 := ⟨n - 1, by omega⟩
      rcases Classical.em (p i) with c | c
      · exact .inl ⟨i, by omega, c, h, hy m i (by omega) c⟩
      · rw [hs m i (by omega) c, nI_1]
        exact ih (i + 1) m (by omega) (by omega) (lt_s h c)
  exact key B 0 n (by omega) hn lt_0
theorem rng_cong {α : Type} {f g : Nat → α → α} {a : α} : ∀ {n : Nat}, (∀ i x, i < n → f i x = g i x) → rng f n a = rng g n a
  | 0, _ => rfl
  | n + 1, h => by
    show f n (rng f n a) = g n (rng g n a)
    rw [rng_cong (fun i x hi => h i x (by omega)), h n _ (by omega)]
theorem rng_rel {α β : Type} (R : Nat → α → β → Prop) {f : Nat → α → α} {g : Nat → β → β} {a : α} {b : β} : ∀ {n : Nat}, R 0 a b → (∀ i x y, i < n → R i x y → R (i + 1) (f i x) (g i y)) → R n (rng f n a) (rng g n b)
  | 0, h, _ => h
  | n + 1, h, hs => hs n _ _ (by omega) (rng_rel R h (fun i x y hi => hs i x y (by omega)))
/-! the model's row as the class's rows -/
