/-! a point more, on the row of numbers -/
theorem PB_add {n : Nat} {r d y r' d' y' : Nat → Int} (h : PB n r d y) (hn : n < 10) (e : ∀ k, k < n → r' k = r k ∧ d' k = d k ∧ y' k = y k) (hx : -100000 ≤ r' n ∧ r' n ≤ 100000) (hz : -400 ≤ d' n ∧ d' n ≤ 1500) (hy : 0 ≤ y' n ∧ y' n ≤ 1000000) (hc : ∀ i, i < n → d i ≠ d' n ∧ r i ≠ r' n ∧ (r i < r' n ↔ d i < d' n)) : PB (n + 1) r' d' y' := by
  have h0 := h.c' e
  obtain ⟨h1, h2, h3, h4, h5⟩ := h0
  have hc' : ∀ i, i < n → d' i ≠ d' n ∧ r' i ≠ r' n ∧ (r' i < r' n ↔ d' i < d' n) := fun i hi => by rw [(e i hi).1, (e i hi).2.1]; exact hc i hi
  refine ⟨by omega, fun i j hi hj g => ?_, fun i j hi hj g => ?_, fun i j hi hj => ?_, fun k hk => ?_⟩
  · by_cases e1 : i = n
    · by_cases e2 : j = n
      · omega
      · rw [e1] at g
        exact absurd g.symm (hc' j (by omega)).2.1
    · by_cases e2 : j = n
      · rw [e2] at g
        exact absurd g (hc' i (by omega)).2.1
      · exact h2 i j (by omega) (by omega) g
  · by_cases e1 : i = n
    · by_cases e2 : j = n
      · omega
      · rw [e1] at g
        exact absurd g.symm (hc' j (by omega)).1
    · by_cases e2 : j = n
      · rw [e2] at g
        exact absurd g (hc' i (by omega)).1
      · exact h3 i j (by omega) (by omega) g
  · by_cases e1 : i = n
    · by_cases e2 : j = n
      · rw [e1, e2]
        omega
      · have := hc' j (by omega)
        rw [e1]
        omega
    · by_cases e2 : j = n
      · rw [e2]
        exact (hc' i (by omega)).2.2
      · exact h4 i j (by omega) (by omega)
  · by_cases e1 : k = n
    · rw [e1]
      exact ⟨hx, hz, hy⟩
    · exact h5 k (by omega)
section
variable {S : Int → Int} {g Y : Nat} {x z yv : Int}
theorem addS_lo (S : Int → Int) (g : Nat) (x z yv : Int) {a : Int} (h : a < 38 * (g : Int) + 7 ∨ 38 * (g : Int) + 38 ≤ a) (hn : gn S g < 10) : addS S g x z yv a = S a := by
  unfold addS
  rw [upI_n _ _ (by omega), upI_n _ _ (by omega), upI_n _ _ (by omega), upI_n _ _ (by omega)]
theorem addS_gn (S : Int → Int) (g : Nat) (x z yv : Int) : addS S g x z yv (38 * (g : Int) + 7) = ((gn S g + 1 : Nat) : Int) ∧ gn (addS S g x z yv) g = gn S g + 1 := by
  have e : addS S g x z yv (38 * (g : Int) + 7) = ((gn S g + 1 : Nat) : Int) := by
    unfold addS
    rw [upI_s]
    rfl
  exact ⟨e, by unfold gn; rw [show (addS S g x z yv (38 * (g : Int) + 7)).toNat = gn S g + 1 from by rw [e]; rfl]; rfl⟩
theorem addS_old (S : Int → Int) (g : Nat) (x z yv : Int) {k : Nat} (hk : k < gn S g) : pr (addS S g x z yv) g k = pr S g k ∧ pd (addS S g x z yv) g k = pd S g k ∧ py (addS S g x z yv) g k = py S g k := by
  have e : ∀ a : Int, 38 * (g : Int) + 8 ≤ a → a < 38 * (g : Int) + (8 + 3 * (gn S g : Int)) → addS S g x z yv a = S a := fun a h1 h2 => by
    unfold addS
    rw [upI_n _ _ (by omega), upI_n _ _ (by omega), upI_n _ _ (by omega), upI_n _ _ (by omega)]
  exact ⟨e _ (by omega) (by omega), e _ (by omega) (by omega), e _ (by omega) (by omega)⟩
theorem addS_new (S : Int → Int) (g : Nat) (x z yv : Int) : pr (addS S g x z yv) g (gn S g) = x ∧ pd (addS S g x z yv) g (gn S g) = z ∧ py (addS S g x z yv) g (gn S g) = yv := by
  unfold pr pd py addS
  rw [upI_n _ _ (by omega), upI_n _ _ (by omega), upI_n _ _ (by omega), upI_s]
  rw [upI_n _ _ (by omega), upI_n _ _ (by omega), upI_s]
  rw [upI_n _ _ (by omega), upI_s]
  exact ⟨rfl, rfl, rfl⟩
theorem GB.add (hG : GB S g Y) (hn : gn S g < 10) (hx : -100000 ≤ x ∧ x ≤ 100000) (hz : -400 ≤ z ∧ z ≤ 1500) (hy : 0 ≤ yv ∧ yv ≤ (Y : Int)) (hY : Y ≤ 1000000) (hc : ∀ i, i < gn S g → pd S g i ≠ z ∧ pr S g i ≠ x ∧ (pr S g i < x ↔ pd S g i < z)) : GB (addS S g x z yv) g Y := by
  have hgn := addS_gn S g x z yv
  have hnew := addS_new S g x z yv
  obtain ⟨a1, a2, a3, a4, a5, a6, a7, a8, a9, a10, a11⟩ := hG
  have hPB : PB (gn S g + 1) (pr (addS S g x z yv) g) (pd (addS S g x z yv) g) (py (addS S g x z yv) g) := PB_add a9 hn (fun k hk => addS_old S g x z yv hk) (by rw [hnew.1]; exact hx) (by rw [hnew.2.1]; exact hz) (by rw [hnew.2.2]; omega) (by rw [hnew.1, hnew.2.1]; exact hc)
  unfold GB
  rw [addS_lo S g x z yv (a := 38 * (g : Int) + 0) (by omega) hn, addS_lo S g x z yv (a := 38 * (g : Int) + 1) (by omega) hn, addS_lo S g x z yv (a := 38 * (g : Int) + 2) (by omega) hn, addS_lo S g x z yv (a := 38 * (g : Int) + 3) (by omega) hn, addS_lo S g x z yv (a := 38 * (g : Int) + 4) (by omega) hn, addS_lo S g x z yv (a := 38 * (g : Int) + 5) (by omega) hn, addS_lo S g x z yv (a := 38 * (g : Int) + 6) (by omega) hn, hgn.2]
  refine ⟨a1, a2, a3, a4, a5, a6, a7, hgn.1, hPB, Sj_all _ hPB.2.1, fun k hk => ?_⟩
  by_cases e : k = gn S g
  · rw [e, hnew.2.2]; exact hy.2
  · rw [(addS_old S g x z yv (by omega)).2.2]
    exact a11 k (by omega)
end
