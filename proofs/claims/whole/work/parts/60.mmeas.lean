/-! measuring, on the row of numbers and in the model -/
section
variable {S : Int → Int} {g Y : Nat} {z : Int} {o : OM}
theorem meas_ok (hG : GB S g Y) (h0 : hnd S g z = 0) : gn (dropS S g z) g < 10 ∧ ∀ i, i < gn (dropS S g z) g → pd (dropS S g z) g i ≠ z ∧ pr (dropS S g z) g i ≠ rdg S g z ∧ (pr (dropS S g z) g i < rdg S g z ↔ pd (dropS S g z) g i < z) := by
  have hn10 := hG.p.1
  have hcr : ¬ Crs (pr S g) (pd S g) (gn S g) (rdg S g z) z := by
    intro hC
    unfold hnd at h0
    split at h0
    · omega
    · split at h0
      · rename_i h1
        unfold crf at h1
        rw [if_pos hC] at h1
        omega
      · omega
  have hall : ∀ i, i < gn S g → pd S g i ≠ z → pr S g i ≠ rdg S g z ∧ (pr S g i < rdg S g z ↔ pd S g i < z) := by
    intro i hi hd
    constructor
    · intro e
      exact hcr ⟨i, hi, hd, Or.inl e⟩
    · apply Classical.byContradiction
      intro e
      exact hcr ⟨i, hi, hd, Or.inr e⟩
  rcases dropS_or hG z with ⟨h1, e⟩ | ⟨q, hq, h1, h2, e⟩
  · rw [e]
    refine ⟨?_, fun i hi => ?_⟩
    · apply Classical.byContradiction
      intro h10
      unfold hnd at h0
      rw [if_pos ⟨by omega, h1⟩] at h0
      omega
    · rcases ixf_sp (pd S g) z (gn S g) with ⟨-, h2⟩ | ⟨k, k1, k2, -⟩
      · exact ⟨h2 i hi, hall i hi (h2 i hi)⟩
      · omega
  · rw [e, cutS_gn hG.n hq]
    refine ⟨by omega, fun i hi => ?_⟩
    obtain ⟨p1, p2, -⟩ := cutS_p S g q (k := i) (by omega)
    rw [p1, p2]
    unfold cutf
    have hds := hG.p.2.2.1
    by_cases c : i < q
    · rw [if_pos c, if_pos c]
      have hd : pd S g i ≠ z := fun e => by have := hds i q (by omega) hq (by rw [e, h2]); omega
      exact ⟨hd, hall i (by omega) hd⟩
    · rw [if_neg c, if_neg c]
      have hd : pd S g (i + 1) ≠ z := fun e => by have := hds (i + 1) q (by omega) hq (by rw [e, h2]); omega
      exact ⟨hd, hall (i + 1) (by omega) hd⟩
theorem GB.meas (hB : SB S Y) (hY : Y ≤ 1000000) (hG : GB S g Y) (h1 : -400 ≤ z) (h2 : z ≤ 1500) (h0 : hnd S g z = 0) : GB (measS S g z) g Y := by
  obtain ⟨m1, m2⟩ := meas_ok hG h0
  have hr := rdg_rg hG h1 h2
  have h233 := hB.2.2.1
  exact (hG.drop z).add m1 ⟨by omega, by omega⟩ ⟨h1, h2⟩ h233 hY m2
theorem measS_lo (hG : GB S g Y) (h0 : hnd S g z = 0) {a : Int} (h : a < 38 * (g : Int) + 7 ∨ 38 * (g : Int) + 38 ≤ a) : measS S g z a = S a := by
  unfold measS
  rw [addS_lo _ g _ _ _ h (meas_ok hG h0).1, dropS_lo hG z (by omega)]
theorem rdg_c {S' : Int → Int} (h : ∀ a : Int, 38 * (g : Int) ≤ a → a < 38 * (g : Int) + 7 → S' a = S a) : rdg S' g z = rdg S g z := by
  unfold rdg
  rw [h _ (by omega) (by omega), h _ (by omega) (by omega), h _ (by omega) (by omega)]
theorem measures_e (hS : MS o S) (hB : SB S Y) (hY : Y ≤ 1000000) (hG : GB S g Y) (hg : g < 6) {b : Int} (h1 : 0 ≤ b) (h2 : b < 4) (h0 : hnd S g (S (229 + b)) = 0) : ∃ o1, F_X6_measures o (I (g : Int)) (I b) = some (I ((gn (dropS S g (S (229 + b))) g : Int) + 1), o1) ∧ Fk o o1 20 ∧ MS o1 (measS S g (S (229 + b))) := by
  have hb := hB.2.1 b h1 h2
  obtain ⟨z, hz⟩ : ∃ z, z = S (229 + b) := ⟨_, rfl⟩
  have q0 := hS (229 + b) (by omega) (by omega)
  rw [← hz] at hb h0 q0 ⊢
  obtain ⟨o2, e2, f2, s2⟩ := drops_e hS hG hg hb.1 hb.2
  obtain ⟨m1, m2⟩ := meas_ok hG h0
  have hG2 := hG.drop z
  have q7 := get7 s2 hg hG2.n
  have qr := readingOf_e s2 hG2 hg hb.1 hb.2
  rw [rdg_c (fun a a1 a2 => dropS_lo hG z (by omega))] at qr
  obtain ⟨n, hn⟩ : ∃ n, n = gn (dropS S g z) g := ⟨_, rfl⟩
  rw [← hn] at q7 m1 ⊢
  have s3 := s2.up (a := 38 * (g : Int) + (8 + 3 * (n : Int))) (by omega) (by omega) (rdg S g z)
  have s4 := s3.up (a := 38 * (g : Int) + (8 + 3 * (n : Int)) + 1) (by omega) (by omega) z
  have q233 := s4 233 (by omega) (by omega)
  rw [upI_n _ _ (by omega), upI_n _ _ (by omega), dropS_lo hG z (by omega)] at q233
  have s5 := s4.up (a := 38 * (g : Int) + (8 + 3 * (n : Int)) + 2) (by omega) (by omega) (S 233)
  have q77 := s5 (38 * (g : Int) + 7) (by omega) (by omega)
  rw [upI_n _ _ (by omega), upI_n _ _ (by omega), upI_n _ _ (by omega), hG2.n, ← hn] at q77
  have s6 := s5.up (a := 38 * (g : Int) + 7) (by omega) (by omega) ((n : Int) + 1)
  have q78 := get_e s6 hg (w := 7) (by omega) (by omega)
  rw [upI_s] at q78
  refine ⟨_, ?_, f2.tr ((((Fk.rf o2 20).wr).wr).wr).wr, s6.c (fun a a1 a2 => ?_)⟩
  · unfold F_X6_measures
    have z229 : (229 : Int32) = I 229 := rfl
    have z7 : (7 : Int32) = I 7 := rfl
    have z8 : (8 : Int32) = I 8 := rfl
    have z3 : (3 : Int32) = I 3 := rfl
    have z1 : (1 : Int32) = I 1 := rfl
    have z2 : (2 : Int32) = I 2 := rfl
    have z233 : (233 : Int32) = I 233 := rfl
    rw [z229, z7, z8, z3, z1, z2, z233, I_add 229 b, I_inB (a := 229 + b) (by omega) (by omega) (by omega), grd_e, q0, bd_e, e2, bn_e, q7, bq_e, I_mul, I_add, of_e, bq_e, qr, bq_e, I_inB (a := 38 * (g : Int) + (8 + 3 * (n : Int))) (by omega) (by omega) (by omega), grd_e, bd_e, I_add, I_inB (a := 38 * (g : Int) + (8 + 3 * (n : Int)) + 1) (by omega) (by omega) (by omega), grd_e, bd_e, I_inB (a := 233) (by omega) (by omega) (by omega), grd_e, I_add, I_inB (a := 38 * (g : Int) + (8 + 3 * (n : Int)) + 2) (by omega) (by omega) (by omega), grd_e, q233, bd_e, of_e, bq_e, I_inB (a := 38 * (g : Int) + 7) (by omega) (by omega) (by omega), grd_e, grd_e, q77, I_add, bd_e, q78, bq_e]
  · unfold measS addS
    rw [← hn]
end
