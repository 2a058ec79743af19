/-! the model's changes: a new thermometer, a year, one broken -/
section
variable {o : OM} {S : Int → Int} {g Y : Nat}
theorem make_loop {m : Nat} (hm : m < 6) (kk : OM → Option (Int32 × OM)) : ∀ (fuel : Nat) (o : OM) (i : Int), 0 ≤ i → i ≤ 38 → 38 < i + fuel → ∃ o1, LX6_makes_13 kk (I (m : Int)) fuel o (I i) = kk o1 ∧ Fk o o1 20 ∧ ∀ a : Int, 0 ≤ a → a < 244 → X o1 20 a = if 38 * (m : Int) + i ≤ a ∧ a < 38 * (m : Int) + 38 then I 0 else X o 20 a := by
  intro fuel
  induction fuel with
  | zero => intro o i h1 h2 h3; omega
  | succ fuel ih =>
    intro o i h1 h2 h3
    rw [LX6_makes_13.eq_2]
    by_cases hi : 38 ≤ i
    · refine ⟨o, ?_, Fk.rf o 20, fun a ha1 ha2 => by rw [if_neg (by omega)]⟩
      simp (disch := omega) only [↓bd_e, bq_e, bn_e, grd_e, I_add, I_sub, I_mul, I_neg, isZ0, isZ1, isZ_tf, tf_z, tf_le, I_lit, I_inB, I_tcN, I_lt, I_le, I_eq, ↓reduceIte, not_true_eq_false, not_false_eq_true, nz, hi]
    · obtain ⟨o1, e1, f1, c1⟩ := ih (wr o 20 0 (I (38 * (m : Int) + i)).toNatClampNeg (I 0)) (i + 1) (by omega) (by omega) (by omega)
      refine ⟨o1, ?_, ((Fk.rf o 20).wr).tr f1, fun a ha1 ha2 => ?_⟩
      · rw [← e1]
        simp (disch := omega) only [↓bd_e, bq_e, bn_e, grd_e, I_add, I_sub, I_mul, I_neg, isZ0, isZ1, isZ_tf, tf_z, tf_le, I_lit, I_inB, I_tcN, I_lt, I_le, I_eq, ↓reduceIte, not_true_eq_false, not_false_eq_true, nz, of_e, hi]
      · rw [c1 a ha1 ha2]
        by_cases h2 : 38 * (m : Int) + (i + 1) ≤ a ∧ a < 38 * (m : Int) + 38
        · rw [if_pos h2, if_pos (by omega)]
        · rw [if_neg h2, X_eq _ _ (by omega) (by omega) (by omega) (by omega)]
          by_cases h : a = 38 * (m : Int) + i
          · rw [if_pos h, if_pos (by omega)]
          · rw [if_neg h, if_neg (by omega)]
theorem makes_e (hS : MS o S) (hB : SB S Y) (hm : gm S < 6) (a b c : Int) : ∃ o1, F_X6_makes o (I a) (I b) (I c) = some (I (gm S : Int), o1) ∧ Fk o o1 20 ∧ MS o1 (makeS S a b c) := by
  have hs228 := hB.m.1
  have q0 := hS 228 (by omega) (by omega)
  rw [hs228] at q0
  have hFU : 100 < FU := by unfold FU; omega
  obtain ⟨m, hmm⟩ : ∃ m, m = gm S := ⟨_, rfl⟩
  rw [← hmm] at hs228 q0 hm ⊢
  unfold F_X6_makes
  generalize FU = F at hFU ⊢
  have z0 : (0 : Int32) = I 0 := rfl
  have z1 : (1 : Int32) = I 1 := rfl
  have z2 : (2 : Int32) = I 2 := rfl
  have z5 : (5 : Int32) = I 5 := rfl
  have zn : (-1 : Int32) = I (-1) := rfl
  have z228 : (228 : Int32) = I 228 := rfl
  rw [zn, z0, z1, z2, z5, z228, q0, I_inB (a := 228) (by omega) (by omega) (by omega), grd_e, bd_e, bd_e]
  obtain ⟨o1, e1, f1, c1⟩ := make_loop hm (fun (o_2 : OM) => bq (F_X6_of o_2 (I (m : Int)) (I 0)) (fun r_3 => grd (inB r_3 244) (bd (wr o_2 20 0 r_3.toNatClampNeg (I a)) (fun o_4 : OM => bq (F_X6_of o_4 (I (m : Int)) (I 1)) (fun r_5 => grd (inB r_5 244) (bd (wr o_4 20 0 r_5.toNatClampNeg (I b)) (fun o_6 : OM => bq (F_X6_of o_6 (I (m : Int)) (I 2)) (fun r_7 => grd (inB r_7 244) (bd (wr o_6 20 0 r_7.toNatClampNeg (I c)) (fun o_8 : OM => bq (F_X6_of o_8 (I (m : Int)) (I 5)) (fun r_9 => grd (inB r_9 244) (bd (wr o_8 20 0 r_9.toNatClampNeg (I (-1))) (fun o_10 : OM => grd true (grd true (bd (wr o_10 20 0 (I 228).toNatClampNeg ((rd o_10 20 0 (I 228).toNatClampNeg) + (I 1))) (fun o_11 : OM => some (I (m : Int), o_11))))))))))))))))) F o 0 (by omega) (by omega) (by omega)
  have hS1 : MS o1 (fun i => if 38 * (m : Int) ≤ i ∧ i < 38 * (m : Int) + 38 then 0 else S i) := by
    intro i h1 h2
    rw [X_d, c1 i h1 h2, Int.add_zero]
    dsimp only
    by_cases h : 38 * (m : Int) ≤ i ∧ i < 38 * (m : Int) + 38
    · rw [if_pos h, if_pos h]
    · rw [if_neg h, if_neg h]
      exact hS i h1 h2
  have s1 := hS1.up (a := 38 * (m : Int) + 0) (by omega) (by omega) a
  have s2 := s1.up (a := 38 * (m : Int) + 1) (by omega) (by omega) b
  have s3 := s2.up (a := 38 * (m : Int) + 2) (by omega) (by omega) c
  have s4 := s3.up (a := 38 * (m : Int) + 5) (by omega) (by omega) (-1)
  have g8 := s4 228 (by omega) (by omega)
  rw [upI_n _ _ (by omega), upI_n _ _ (by omega), upI_n _ _ (by omega), upI_n _ _ (by omega)] at g8
  rw [if_neg (by omega), hs228] at g8
  have s5 := s4.up (a := 228) (by omega) (by omega) ((m : Int) + 1)
  refine ⟨_, ?_, f1.tr (((((Fk.rf o1 20).wr).wr).wr).wr.wr), s5.c (fun i h1 h2 => ?_)⟩
  · refine e1.trans ?_
    simp (disch := omega) only [↓bd_e, bq_e, bn_e, grd_e, I_add, I_sub, I_mul, I_neg, isZ0, isZ1, isZ_tf, tf_z, tf_le, I_lit, I_inB, I_tcN, I_lt, I_le, I_eq, ↓reduceIte, not_true_eq_false, not_false_eq_true, nz, of_e, g8]
  · unfold makeS upI
    rw [← hmm]
    dsimp only
    by_cases i0 : i = 228
    · rw [if_pos i0, if_pos i0, hs228]
    · rw [if_neg i0, if_neg i0]
      by_cases i5 : i = 38 * (m : Int) + 5
      · rw [if_pos i5, if_pos (by omega), if_neg (by omega), if_neg (by omega), if_neg (by omega), if_pos i5]
      · rw [if_neg i5]
        by_cases i2 : i = 38 * (m : Int) + 2
        · rw [if_pos i2, if_pos (by omega), if_neg (by omega), if_neg (by omega), if_pos i2]
        · rw [if_neg i2]
          by_cases i1 : i = 38 * (m : Int) + 1
          · rw [if_pos i1, if_pos (by omega), if_neg (by omega), if_pos i1]
          · rw [if_neg i1]
            by_cases i3 : i = 38 * (m : Int) + 0
            · rw [if_pos i3, if_pos (by omega), if_pos i3]
            · rw [if_neg i3]
              by_cases h : 38 * (m : Int) ≤ i ∧ i < 38 * (m : Int) + 38
              · rw [if_pos h, if_pos h, if_neg i3, if_neg i1, if_neg i2, if_neg i5]
              · rw [if_neg h, if_neg h]
theorem break_loop (kk : OM → Option (Int32 × OM)) : ∀ (fuel : Nat) (o : OM) (i : Int), 0 ≤ i → i ≤ 190 → 190 < i + fuel → ∃ o1, LX6_breakOne_40 kk fuel o (I i) = kk o1 ∧ Fk o o1 20 ∧ ∀ a : Int, 0 ≤ a → a < 244 → X o1 20 a = if i ≤ a ∧ a < 190 then X o 20 (a + 38) else X o 20 a := by
  intro fuel
  induction fuel with
  | zero => intro o i h1 h2 h3; omega
  | succ fuel ih =>
    intro o i h1 h2 h3
    rw [LX6_breakOne_40.eq_2]
    by_cases hi : 190 ≤ i
    · refine ⟨o, ?_, Fk.rf o 20, fun a ha1 ha2 => by rw [if_neg (by omega)]⟩
      simp (disch := omega) only [↓bd_e, bq_e, bn_e, grd_e, I_add, I_sub, I_mul, I_neg, isZ0, isZ1, isZ_tf, tf_z, tf_le, I_lit, I_inB, I_tcN, I_lt, I_le, I_eq, ↓reduceIte, not_true_eq_false, not_false_eq_true, nz, of_e, Int.reduceMul, Int.reduceAdd, hi]
    · obtain ⟨o1, e1, f1, c1⟩ := ih (wr o 20 0 (I i).toNatClampNeg (X o 20 (i + 38))) (i + 1) (by omega) (by omega) (by omega)
      refine ⟨o1, ?_, ((Fk.rf o 20).wr).tr f1, fun a ha1 ha2 => ?_⟩
      · rw [← e1]
        simp (disch := omega) only [↓bd_e, bq_e, bn_e, grd_e, I_add, I_sub, I_mul, I_neg, isZ0, isZ1, isZ_tf, tf_z, tf_le, I_lit, I_inB, I_tcN, I_lt, I_le, I_eq, ↓reduceIte, not_true_eq_false, not_false_eq_true, nz, of_e, Int.reduceMul, Int.reduceAdd, hi, X_d]
      · rw [c1 a ha1 ha2]
        by_cases h2 : i + 1 ≤ a ∧ a < 190
        · rw [if_pos h2, X_eq _ _ (by omega) (by omega) (by omega) (by omega), if_neg (by omega), if_pos (by omega)]
        · rw [if_neg h2, X_eq _ _ (by omega) (by omega) (by omega) (by omega)]
          by_cases h : a = i
          · rw [if_pos h, if_pos (by omega), h]
          · rw [if_neg h, if_neg (by omega)]
theorem grow_rg {S : Int → Int} {g Y : Nat} (hB : SB S Y) (h : GB S g Y) : 0 ≤ S (235 + S (38 * (g : Int) + 2)) / (S (38 * (g : Int) + 3) + 1) ∧ S (235 + S (38 * (g : Int) + 2)) / (S (38 * (g : Int) + 3) + 1) ≤ 60 ∧ 0 ≤ S (235 + S (38 * (g : Int) + 2)) ∧ S (235 + S (38 * (g : Int) + 2)) ≤ 60 := by
  obtain ⟨a1, a2, a3, a4, a5, a6, a7, -⟩ := h
  have hk := hB.2.2.2.2.1 (S (38 * (g : Int) + 2)) (by omega) (by omega)
  rw [if_pos (by omega)] at hk
  have h1 : 0 ≤ S (235 + S (38 * (g : Int) + 2)) / (S (38 * (g : Int) + 3) + 1) := Int.ediv_nonneg (by omega) (by omega)
  have h2 : S (235 + S (38 * (g : Int) + 2)) / (S (38 * (g : Int) + 3) + 1) ≤ S (235 + S (38 * (g : Int) + 2)) := Int.ediv_le_self _ (by omega)
  omega
/-- one step of the year, where the numbers are as they were for the thermometers to come -/
theorem year_step (hS : MS o S) (hm : gm S ≤ 6) (h228 : S 228 = (gm S : Int)) {i : Nat} (hi : i < gm S) (b1 : 0 ≤ S (38 * (i : Int) + 2) ∧ S (38 * (i : Int) + 2) ≤ 3) (b2 : 0 ≤ S (38 * (i : Int) + 3) ∧ S (38 * (i : Int) + 3) ≤ 1000000) (b3 : 0 ≤ S (235 + S (38 * (i : Int) + 2)) ∧ S (235 + S (38 * (i : Int) + 2)) ≤ 60) (kk : OM → Option (Int32 × OM)) (fuel : Nat) :
    ∃ o1, LX6_passes_9 kk (fuel + 1) o (I (i : Int)) = LX6_passes_9 kk fuel o1 (I ((i : Int) + 1)) ∧ Fk o o1 20 ∧ MS o1 (growS S i) := by
  have s1 := hS.up (a := 38 * (i : Int) + 4) (by omega) (by omega) (S (38 * (i : Int) + 4) + S (235 + S (38 * (i : Int) + 2)) / (S (38 * (i : Int) + 3) + 1))
  have s2 := s1.up (a := 38 * (i : Int) + 3) (by omega) (by omega) (S (38 * (i : Int) + 3) + 1)
  have q0 := hS 228 (by omega) (by omega)
  rw [h228] at q0
  have q2 := get_e hS (g := i) (by omega) (w := 2) (by omega) (by omega)
  have q3 := get_e hS (g := i) (by omega) (w := 3) (by omega) (by omega)
  have q4 := hS (38 * (i : Int) + 4) (by omega) (by omega)
  have q5 := hS (235 + S (38 * (i : Int) + 2)) (by omega) (by omega)
  have q6 := s1 (38 * (i : Int) + 3) (by omega) (by omega)
  rw [upI_n _ _ (by omega)] at q6
  have hc : ((gm S : Int) ≤ (i : Int)) = False := eq_false (by omega)
  refine ⟨_, ?_, ((Fk.rf o 20).wr).wr, s2⟩
  rw [LX6_passes_9.eq_2]
  have hdv : I (S (235 + S (38 * (i : Int) + 2))) / I (S (38 * (i : Int) + 3) + 1) = I (S (235 + S (38 * (i : Int) + 2)) / (S (38 * (i : Int) + 3) + 1)) := by
    rw [I_div (by omega) (by omega) (by omega) (by omega), Int.tdiv_eq_ediv_of_nonneg (by omega)]
  simp (disch := omega) only [↓bd_e, bq_e, bn_e, grd_e, I_add, I_sub, I_mul, I_neg, isZ0, isZ1, isZ_tf, tf_z, tf_le, I_lit, I_inB, I_tcN, I_lt, I_le, I_eq, ↓reduceIte, not_true_eq_false, not_false_eq_true, nz, of_e, q0, hc, q2, q3, q4, q5, hdv, q6]
end
