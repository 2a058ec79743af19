/-! measuring, on the row of numbers and in the model -/
section
variable {S : Int → Int} {g Y : Nat} {z : Int} {o : OM}
theorem meas_ok (hG : GB S g Y) (h0 : hnd S g z = 0) : gn (dropS S g z) g < 10 ∧ ∀ i, i < gn (dropS S g z) g → pd (dropS S g z) g i ≠ z ∧ pr (dropS S g z) g i ≠ rdg S g z ∧ (pr (dropS S g z) g i < rdg S g z ↔ pd (dropS S g z) g i < z) := by
  have hn10 := hG.p.1
  have hcr : ¬ Crs (pr S g) (pd S g) (gn S g) (rdg S g z) z := by
    intro hC
    unfold hnd at h0
    split at h0
    · omega
    · split at h0
      · rename_i h1
        unfold crf at h1
        rw [if_pos hC] at h1
        omega
      · omega
  have hall : ∀ i, i < gn S g → pd S g i ≠ z → pr S g i ≠ rdg S g z ∧ (pr S g i < rdg S g z ↔ pd S g i < z) := by
    intro i hi hd
    constructor
    · intro e
      exact hcr ⟨i, hi, hd, Or.inl e⟩
    · apply Classical.byContradiction
      intro e
      exact hcr ⟨i, hi, hd, Or.inr e⟩
  rcases dropS_or hG z with ⟨h1, e⟩ | ⟨q, hq, h1, h2, e⟩
  · rw [e]
    refine ⟨?_, fun i hi => ?_⟩
    · apply Classical.byContradiction
      intro h10
      unfold hnd at h0
      rw [if_pos ⟨by omega, h1⟩] at h0
      omega
    · rcases ixf_sp (pd S g) z (gn S g) with ⟨-, h2⟩ | ⟨k, k1, k2, -⟩
      · exact ⟨h2 i hi, hall i hi (h2 i hi)⟩
      · omega
  · rw [e, cutS_gn hG.n hq]
    refine ⟨by omega, fun i hi => ?_⟩
    obtain ⟨p1, p2, -⟩ := cutS_p S g q (k := i) (by omega)
    rw [p1, p2]
    unfold cutf
    have hds := hG.p.2.2.1
    by_cases c : i < q
    · rw [if_pos c, if_pos c]
      have hd : pd S g i ≠ z := fun e => by have := hds i q (by omega) hq (by rw [e, h2]); omega
      exact ⟨hd, hall i (by omega) hd⟩
    · rw [if_neg c, if_neg c]
      have hd : pd S g (i + 1) ≠ z := fun e => by have := hds (i + 1) q (by omega) hq (by rw [e, h2]); omega
      exact ⟨hd, hall (i + 1) (by omega) hd⟩
theorem GB.meas (hB : SB S Y) (hY : Y ≤ 1000000) (hG : GB S g Y) (h1 : -400 ≤ z) (h2 : z ≤ 1500) (h0 : hnd S g z = 0) : GB (measS S g z) g Y := by
  obtain ⟨m1, m2⟩ := meas_ok hG h0
  have hr := rdg_rg hG h1 h2
  have h233 := hB.2.2.1
  exact (hG.drop z).add m1 ⟨by omega, by omega⟩ ⟨h1, h2⟩ h233 hY m2
theorem measS_lo (hG : GB S g Y) (h0 : hnd S g z = 0) {a : Int} (h : a < 38 * (g : Int) + 7 ∨ 38 * (g : Int) + 38 ≤ a) : measS S g z a = S a := by
  unfold measS
  rw [addS_lo _ g _ _ _ h (meas_ok hG h0).1, dropS_lo hG z (by omega)]
theorem rdg_c {S' : Int → Int} (h : ∀ a : Int, 38 * (g : Int) ≤ a → a < 38 * (g : Int) + 7 → S' a = S a) : rdg S' g z = rdg S g z := by
  unfold rdg
  rw [h _ (by omega) (by omega), h _ (by omega) (by omega), h _ (by omega) (by omega)]
end
