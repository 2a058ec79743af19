/-! the program's changes: a new thermometer, a paper -/
section
variable {o : OM} {S : Int → Int} {g Y : Nat}
theorem hasRoom_e (hC : CS o 0 S) (hB : SB S Y) : F_X2_hasRoom o 0 = some (tf (gm S < 6)) := by
  have hm := hB.m
  have s2 := hC.2.2.1
  rw [hm.1] at s2
  unfold F_X2_hasRoom
  by_cases c : gm S < 6
  · have c' : (6 ≤ (gm S : Int)) = False := eq_false (by omega)
    rw [tf_t c]
    simp (disch := omega) only [↓bd_e, bq_e, bn_e, grd_e, I_add, I_sub, I_mul, I_neg, isZ0, isZ1, isZ_tf, tf_z, tf_le, I_lit, I_inB, I_tcN, I_lt, I_le, I_eq, ↓reduceIte, not_true_eq_false, not_false_eq_true, nz, s2, c']
  · have c' : (6 ≤ (gm S : Int)) = True := eq_true (by omega)
    rw [tf_f c]
    simp (disch := omega) only [↓bd_e, bq_e, bn_e, grd_e, I_add, I_sub, I_mul, I_neg, isZ0, isZ1, isZ_tf, tf_z, tf_le, I_lit, I_inB, I_tcN, I_lt, I_le, I_eq, ↓reduceIte, not_true_eq_false, not_false_eq_true, nz, s2, c']
theorem has_e (hC : CS o 0 S) (hB : SB S Y) (v : Int32) : F_X2_has o 0 v = some (tf (0 ≤ v.toInt ∧ v.toInt < (gm S : Int))) := by
  have hm := hB.m
  have s2 := hC.2.2.1
  rw [hm.1] at s2
  have l1 := toI_lo v
  have l2 := toI_hi v
  unfold F_X2_has
  obtain ⟨x, hx⟩ : ∃ x, x = v.toInt := ⟨_, rfl⟩
  rw [← I_toI v, ← hx, I_to (by omega) (by omega)]
  by_cases c1 : x < 0
  · rw [tf_f (by omega)]
    simp (disch := omega) only [↓bd_e, bq_e, bn_e, grd_e, I_add, I_sub, I_mul, I_neg, isZ0, isZ1, isZ_tf, tf_z, tf_le, I_lit, I_inB, I_tcN, I_lt, I_le, I_eq, ↓reduceIte, not_true_eq_false, not_false_eq_true, nz, s2, c1]
  · by_cases c2 : (gm S : Int) ≤ x
    · rw [tf_f (by omega)]
      simp (disch := omega) only [↓bd_e, bq_e, bn_e, grd_e, I_add, I_sub, I_mul, I_neg, isZ0, isZ1, isZ_tf, tf_z, tf_le, I_lit, I_inB, I_tcN, I_lt, I_le, I_eq, ↓reduceIte, not_true_eq_false, not_false_eq_true, nz, s2, c1, c2]
    · rw [tf_t (by omega)]
      simp (disch := omega) only [↓bd_e, bq_e, bn_e, grd_e, I_add, I_sub, I_mul, I_neg, isZ0, isZ1, isZ_tf, tf_z, tf_le, I_lit, I_inB, I_tcN, I_lt, I_le, I_eq, ↓reduceIte, not_true_eq_false, not_false_eq_true, nz, s2, c1, c2]
end
