/-! the model's gate -/
theorem holds_e (o : OM) (p : Int) (h1 : 0 ≤ p) (h2 : p ≤ 9) : F_X6_holds o (I p) = some (tf (p = 0), wr o 19 0 0 (I p)) := by
  unfold F_X6_holds
  by_cases c : p = 0
  · rw [tf_t c]
    simp (disch := omega) only [↓bd_e, bq_e, bn_e, grd_e, I_add, I_sub, I_mul, I_neg, isZ0, isZ1, isZ_tf, tf_z, tf_le, I_lit, I_inB, I_tcN, I_lt, I_le, I_eq, ↓reduceIte, not_true_eq_false, not_false_eq_true, nz, c]
  · rw [tf_f c]
    simp (disch := omega) only [↓bd_e, bq_e, bn_e, grd_e, I_add, I_sub, I_mul, I_neg, isZ0, isZ1, isZ_tf, tf_z, tf_le, I_lit, I_inB, I_tcN, I_lt, I_le, I_eq, ↓reduceIte, not_true_eq_false, not_false_eq_true, nz, c]
section
variable {o : OM} {S : Int → Int} {Y : Nat}
theorem isThere_e (hS : MS o S) (hB : SB S Y) (v : Int32) : F_X6_isThere o v = some (tf (0 ≤ v.toInt ∧ v.toInt < (gm S : Int))) := by
  have hm := hB.m
  have q := hS 228 (by omega) (by omega)
  rw [hm.1] at q
  have l1 := toI_lo v
  have l2 := toI_hi v
  unfold F_X6_isThere
  have z228 : (228 : Int32) = I 228 := rfl
  have z1 : (1 : Int32) = I 1 := rfl
  have z0 : (0 : Int32) = I 0 := rfl
  rw [z228, z1, z0, I_inB (a := 228) (by omega) (by omega) (by omega), grd_e, q, I_sub, in_e, bq_e, isZ_tf, grd_e]
  congr 1
  apply tf_c
  rw [← I_toI v]
  rw [I_lt (by omega) (by omega) (by omega) (by omega), I_lt (by omega) (by omega) (by omega) (by omega), I_to (by omega) (by omega)]
  omega
end
