/-! states of the program that are as they were -/
theorem CS.fr {o o1 : OM} {j : Nat} {S : Int → Int} (h : CS o j S) (h1 : ∀ k, 1 ≤ k → k ≤ 4 → o1.1 k j = o.1 k j) (h2 : ∀ k t, 5 ≤ k → k ≤ 13 → t / 6 = j → o1.1 k t = o.1 k t) : CS o1 j S := by
  obtain ⟨a1, a2, a3, a4, a5, a6, a7, a8⟩ := h
  have e1 : ∀ k i, 1 ≤ k → k ≤ 4 → rd o1 k j i = rd o k j i := fun k i x y => by
    show o1.1 k j i = o.1 k j i
    rw [h1 k x y]
  refine ⟨by rw [e1 1 0 (by omega) (by omega)]; exact a1, by rw [e1 1 1 (by omega) (by omega)]; exact a2, by rw [e1 1 2 (by omega) (by omega)]; exact a3, by rw [e1 1 3 (by omega) (by omega)]; exact a4, by rw [e1 1 4 (by omega) (by omega)]; exact a5, fun a x y => by rw [e1 2 _ (by omega) (by omega)]; exact a6 a x y, fun a x y => by rw [e1 3 _ (by omega) (by omega)]; exact a7 a x y, fun g hg => ?_⟩
  rw [e1 4 g (by omega) (by omega)]
  have ht : tid j (rd o 4 j g) / 6 = j := by
    unfold tid
    omega
  have := a8 g hg
  obtain ⟨b1, b2, b3, b4, b5, b6, b7, b8, b9⟩ := this
  have e2 : ∀ k, 5 ≤ k → k ≤ 13 → o1.1 k (tid j (rd o 4 j g)) = o.1 k (tid j (rd o 4 j g)) := fun k x y => h2 k _ x y ht
  refine ⟨(congrFun (e2 5 (by omega) (by omega)) 0).trans b1, (congrFun (e2 5 (by omega) (by omega)) 1).trans b2, (congrFun (e2 5 (by omega) (by omega)) 2).trans b3, (congrFun (e2 5 (by omega) (by omega)) 3).trans b4, (congrFun (e2 5 (by omega) (by omega)) 4).trans b5, (congrFun (e2 5 (by omega) (by omega)) 5).trans b6, (congrFun (e2 5 (by omega) (by omega)) 6).trans b7, (congrFun (e2 6 (by omega) (by omega)) 0).trans b8, b9.m (fun k i x y _ => by
    show o1.1 k _ i = o.1 k _ i
    rw [e2 k (by omega) y])⟩
/-- the thermometers of a State lie at places of its own -/
def PM (o : OM) (j : Nat) : Prop := ∀ g, g < 6 → ∃ v : Nat, v < 6 ∧ rd o 4 j g = I (v : Int) ∧ ∀ g' : Nat, g' < 6 → rd o 4 j g' = rd o 4 j g → g' = g
theorem pm_tid {o : OM} {j g : Nat} (h : PM o j) (hg : g < 6) : ∃ v : Nat, v < 6 ∧ tid j (rd o 4 j g) = 6 * j + v ∧ rd o 4 j g = I (v : Int) := by
  obtain ⟨v, h1, h2, h3⟩ := h g hg
  refine ⟨v, h1, ?_, h2⟩
  unfold tid
  rw [h2, I_tcN (by omega)]
  omega
theorem pm_ne {o : OM} {j g g' : Nat} (h : PM o j) (hg : g < 6) (hg' : g' < 6) (hn : g ≠ g') : tid j (rd o 4 j g) ≠ tid j (rd o 4 j g') := by
  obtain ⟨v, v1, v2, v3⟩ := pm_tid h hg
  obtain ⟨w, w1, w2, w3⟩ := pm_tid h hg'
  intro e
  have : v = w := by omega
  obtain ⟨_, _, _, u⟩ := h g' hg'
  exact hn (u g hg (by rw [v3, w3, this]))
