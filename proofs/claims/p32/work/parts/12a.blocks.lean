/-! worlds of several blocks: their order doesn't matter -/
theorem vd_nd {A : Nat → Prop} {ws : va_W} (h : va_D A ws) : (ws.map Prod.fst).Nodup := by
  refine List.pairwise_iff_getElem.mpr (fun i j hi hj hij => ?_)
  have hi' : i < ws.length := by simpa using hi
  have hj' : j < ws.length := by simpa using hj
  rw [List.getElem_map, List.getElem_map]
  intro e
  have := h.1 i j ws[i] ws[j] (List.getElem?_eq_getElem hi') (List.getElem?_eq_getElem hj') e
  omega
theorem vd_of {A : Nat → Prop} {ws : va_W} (h : (ws.map Prod.fst).Nodup) (hA : ∀ q ∈ ws, A q.1) : va_D A ws := by
  refine ⟨fun i j p q hi hj e => ?_, fun k q hk => hA q (List.mem_of_getElem? hk)⟩
  obtain ⟨li, ei⟩ := List.getElem?_eq_some_iff.mp hi
  obtain ⟨lj, ej⟩ := List.getElem?_eq_some_iff.mp hj
  have hp := List.pairwise_iff_getElem.mp h
  rcases Nat.lt_trichotomy i j with c | c | c
  · exact absurd (by rw [List.getElem_map, List.getElem_map, ei, ej, e]) (hp i j (by simpa using li) (by simpa using lj) c)
  · exact c
  · exact absurd (by rw [List.getElem_map, List.getElem_map, ei, ej, e]) (hp j i (by simpa using lj) (by simpa using li) c)
theorem vd_perm {A : Nat → Prop} {ws ws' : va_W} (hp : List.Perm ws ws') (h : va_D A ws) : va_D A ws' :=
  vd_of ((hp.map Prod.fst).nodup_iff.mp (vd_nd h)) (fun q hq => by
    obtain ⟨k, hk⟩ := List.getElem?_of_mem (hp.mem_iff.mpr hq)
    exact h.2 k q hk)
theorem vp_perm {D : va_G} {cl : List vw_C} {H : Heap} {ws ws' : va_W} (hp : List.Perm ws ws') (h : va_P D cl ws H) : va_P D cl ws' H := fun i q hq => by
  obtain ⟨k, hk⟩ := List.getElem?_of_mem (hp.mem_iff.mpr (List.mem_of_getElem? hq))
  exact h k q hk
theorem rg_map {α : Type} (l r : List α) : (List.range l.length).map (fun i => (l ++ r)[i]?) = l.map some := by
  apply List.ext_getElem (by simp)
  intro i h1 h2
  have h3 : i < l.length := by simpa using h2
  rw [List.getElem_map, List.getElem_map, List.getElem_range, List.getElem?_append_left h3, List.getElem?_eq_getElem h3]
theorem rg_map2 {α : Type} (l r : List α) : ((List.range r.length).map (fun i => i + l.length)).map (fun i => (l ++ r)[i]?) = r.map some := by
  apply List.ext_getElem (by simp)
  intro i h1 h2
  have h3 : i < r.length := by simpa using h2
  rw [List.getElem_map, List.getElem_map, List.getElem_map, List.getElem_range, List.getElem?_append_right (Nat.le_add_left _ _), Nat.add_sub_cancel, List.getElem?_eq_getElem h3]
theorem va_nd_of : ∀ {l : List Nat}, l.Nodup → va_nd l = true
  | [], _ => rfl
  | a :: l, h => by
    have h1 := List.nodup_cons.mp h
    simp only [va_nd, Bool.and_eq_true, decide_eq_true_eq]
    exact ⟨h1.1, va_nd_of h1.2⟩
theorem rg_nd (n : Nat) : va_nd (List.range n) = true := va_nd_of List.nodup_range
theorem rg_nd2 (n m : Nat) : va_nd ((List.range n).map (fun i => i + m)) = true := va_nd_of (List.Pairwise.map _ (fun a b h => by omega) List.nodup_range)
theorem rg_dis (n m : Nat) : ∀ i ∈ (List.range n).map (fun i => i + m), i ∉ List.range m := fun i h q => by
  obtain ⟨j, -, rfl⟩ := List.mem_map.mp h
  have := List.mem_range.mp q
  omega
-- orders of blocks
section PM
variable {B B0 Bj X X' Y Y' A C R : va_W}
theorem pm0 (h : List.Perm X' (Bj ++ Y')) : List.Perm (B0 ++ X') (Bj ++ (B0 ++ Y')) := by
  refine (h.append_left B0).trans ?_
  rw [← List.append_assoc, ← List.append_assoc]
  exact List.perm_append_comm.append_right Y'
theorem pmL : List.Perm (B0 ++ Bj) (Bj ++ B0) := List.perm_append_comm
theorem pmc (h : List.Perm X Y) : List.Perm (B ++ X) (B ++ Y) := h.append_left B
theorem as2 : List.Perm (A ++ (B ++ R)) ((A ++ B) ++ R) := by rw [List.append_assoc]
theorem as3 : List.Perm (A ++ (B ++ (C ++ R))) ((A ++ (B ++ C)) ++ R) := by rw [List.append_assoc, List.append_assoc]
end PM
section GK
variable {k : Kt} {cc : ByteArray} {nL : Nat} {own nm : String} {Ts : List Cond} {rm : Room} {ws wc wr : va_W} {lv : List (Nat × Value)} {cs sl pc mc ms : Nat} {st st0 rest : List Value}
theorem g_Perm {ws' : va_W} (hp : List.Perm ws ws') (h : gG k ws' lv cs sl pc st) : gG k ws lv cs sl pc st :=
  fun H locs ls hP hD hS hl => h H locs ls (vp_perm hp hP) (vd_perm hp hD) hS hl
theorem gX_Perm {E : String} {ws' : va_W} (hp : List.Perm ws ws') (h : gX k ws' lv cs sl pc st E) : gX k ws lv cs sl pc st E :=
  fun H locs ls ce q9 hP hD hS hl => h H locs ls ce q9 (vp_perm hp hP) (vd_perm hp hD) hS hl
/-- a writer, its blocks first -/
theorem g_callWA {α β : Type} {o : Option α} {X : α → Option β} {r : β} (hf : o.bind X = some r) (C : gC k cc nL own Ts rm nm) (vf : α → Option Value) (w1 : α → va_W) (hp : List.Perm ws (wc ++ wr)) (run : ∀ u, o = some u → gRun k (wc ++ wr) lv cs sl pc st0 rest wc (fun rv w => rv = vf u ∧ w = w1 u) (fun _ _ => False) mc ms) {ws' : α → va_W} (hp2 : ∀ u, List.Perm (w1 u ++ wr) (ws' u)) {pc' cs' sl' : Nat} (hpc : pc + 3 = pc') (hcs : cs + mc = cs') (hsl : sl + ms = sl') (stk : α → List Value) (hstk : ∀ u, (vf u).toList ++ rest = stk u)
    (kk : ∀ u, X u = some r → gG k (ws' u) lv cs' sl' pc' (stk u)) : gG k ws lv cs sl pc st0 := by
  obtain ⟨u, hu, hf⟩ := bd_e hf
  subst hpc
  subst hcs
  subst hsl
  refine g_Perm hp (g_callG C (run u hu) (List.range wc.length) ((List.range wr.length).map (fun i => i + wc.length)) (rg_map wc wr) (rg_map2 wc wr) (rg_nd2 _ _) (rg_dis _ _) (fun _ _ h => h.elim) (fun rv w h => ?_))
  obtain ⟨rfl, rfl⟩ := h
  rw [hstk u]
  exact g_Perm (List.perm_append_comm.trans (hp2 u)) (kk u hf)
theorem g_callPA {α β : Type} {o : Option α} {X : α → Option β} {r : β} (hf : o.bind X = some r) (C : gC k cc nL own Ts rm nm) (vf : α → Option Value) (w1 : α → (Nat → Nat) → va_W) (hp : List.Perm ws (wc ++ wr)) (run : ∀ u, o = some u → gRun k (wc ++ wr) lv cs sl pc st0 rest wc (fun rv w => rv = vf u ∧ ∃ a : Nat → Nat, w = w1 u a) (fun _ _ => False) mc ms) {ws' : α → (Nat → Nat) → va_W} (hp2 : ∀ u a, List.Perm (w1 u a ++ wr) (ws' u a)) {pc' cs' sl' : Nat} (hpc : pc + 3 = pc') (hcs : cs + mc = cs') (hsl : sl + ms = sl') (stk : α → List Value) (hstk : ∀ u, (vf u).toList ++ rest = stk u)
    (kk : ∀ (u : α) (a : Nat → Nat), X u = some r → gG k (ws' u a) lv cs' sl' pc' (stk u)) : gG k ws lv cs sl pc st0 := by
  obtain ⟨u, hu, hf⟩ := bd_e hf
  subst hpc
  subst hcs
  subst hsl
  refine g_Perm hp (g_callG C (run u hu) (List.range wc.length) ((List.range wr.length).map (fun i => i + wc.length)) (rg_map wc wr) (rg_map2 wc wr) (rg_nd2 _ _) (rg_dis _ _) (fun _ _ h => h.elim) (fun rv w h => ?_))
  obtain ⟨rfl, a, rfl⟩ := h
  rw [hstk u]
  exact g_Perm (List.perm_append_comm.trans (hp2 u a)) (kk u a hf)
end GK
