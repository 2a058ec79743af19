/-! the program's changes: a new thermometer, a paper -/
section
variable {o : OM} {S : Int → Int} {g Y : Nat}
theorem hasRoom_e (hC : CS o 0 S) (hB : SB S Y) : F_X2_hasRoom o 0 = some (tf (gm S < 6)) := by
  have hm := hB.m
  have s2 := hC.2.2.1
  rw [hm.1] at s2
  unfold F_X2_hasRoom
  by_cases c : gm S < 6
  · have c' : (6 ≤ (gm S : Int)) = False := eq_false (by omega)
    rw [tf_t c]
    simp (disch := omega) only [↓bd_e, bq_e, bn_e, grd_e, I_add, I_sub, I_mul, I_neg, isZ0, isZ1, isZ_tf, tf_z, tf_le, I_lit, I_inB, I_tcN, I_lt, I_le, I_eq, ↓reduceIte, not_true_eq_false, not_false_eq_true, nz, s2, c']
  · have c' : (6 ≤ (gm S : Int)) = True := eq_true (by omega)
    rw [tf_f c]
    simp (disch := omega) only [↓bd_e, bq_e, bn_e, grd_e, I_add, I_sub, I_mul, I_neg, isZ0, isZ1, isZ_tf, tf_z, tf_le, I_lit, I_inB, I_tcN, I_lt, I_le, I_eq, ↓reduceIte, not_true_eq_false, not_false_eq_true, nz, s2, c']
theorem has_e (hC : CS o 0 S) (hB : SB S Y) (v : Int32) : F_X2_has o 0 v = some (tf (0 ≤ v.toInt ∧ v.toInt < (gm S : Int))) := by
  have hm := hB.m
  have s2 := hC.2.2.1
  rw [hm.1] at s2
  have l1 := toI_lo v
  have l2 := toI_hi v
  unfold F_X2_has
  obtain ⟨x, hx⟩ : ∃ x, x = v.toInt := ⟨_, rfl⟩
  rw [← I_toI v, ← hx, I_to (by omega) (by omega)]
  by_cases c1 : x < 0
  · rw [tf_f (by omega)]
    simp (disch := omega) only [↓bd_e, bq_e, bn_e, grd_e, I_add, I_sub, I_mul, I_neg, isZ0, isZ1, isZ_tf, tf_z, tf_le, I_lit, I_inB, I_tcN, I_lt, I_le, I_eq, ↓reduceIte, not_true_eq_false, not_false_eq_true, nz, s2, c1]
  · by_cases c2 : (gm S : Int) ≤ x
    · rw [tf_f (by omega)]
      simp (disch := omega) only [↓bd_e, bq_e, bn_e, grd_e, I_add, I_sub, I_mul, I_neg, isZ0, isZ1, isZ_tf, tf_z, tf_le, I_lit, I_inB, I_tcN, I_lt, I_le, I_eq, ↓reduceIte, not_true_eq_false, not_false_eq_true, nz, s2, c1, c2]
    · rw [tf_t (by omega)]
      simp (disch := omega) only [↓bd_e, bq_e, bn_e, grd_e, I_add, I_sub, I_mul, I_neg, isZ0, isZ1, isZ_tf, tf_z, tf_le, I_lit, I_inB, I_tcN, I_lt, I_le, I_eq, ↓reduceIte, not_true_eq_false, not_false_eq_true, nz, s2, c1, c2]
end
theorem makeS_lo (S : Int → Int) (a b c : Int) {i : Int} (h : i ≠ 228) (h2 : ¬ (38 * (gm S : Int) ≤ i ∧ i < 38 * (gm S : Int) + 38)) : makeS S a b c i = S i := by
  unfold makeS
  rw [if_neg h, if_neg h2]
theorem makeS_new (S : Int → Int) (a b c : Int) (hm : gm S < 6) {w : Int} (h1 : 0 ≤ w) (h2 : w < 38) : makeS S a b c (38 * (gm S : Int) + w) = if w = 0 then a else if w = 1 then b else if w = 2 then c else if w = 5 then -1 else 0 := by
  unfold makeS
  rw [if_neg (by omega), if_pos (by omega)]
  by_cases e0 : w = 0
  · rw [if_pos (by omega), if_pos e0]
  · rw [if_neg (by omega), if_neg e0]
    by_cases e1 : w = 1
    · rw [if_pos (by omega), if_pos e1]
    · rw [if_neg (by omega), if_neg e1]
      by_cases e2 : w = 2
      · rw [if_pos (by omega), if_pos e2]
      · rw [if_neg (by omega), if_neg e2]
        by_cases e5 : w = 5
        · rw [if_pos (by omega), if_pos e5]
        · rw [if_neg (by omega), if_neg e5]
theorem makeS_gm (S : Int → Int) (a b c : Int) (h : S 228 = (gm S : Int)) : makeS S a b c 228 = (gm S : Int) + 1 ∧ gm (makeS S a b c) = gm S + 1 := by
  have e : makeS S a b c 228 = (gm S : Int) + 1 := by
    unfold makeS
    rw [if_pos rfl, h]
  refine ⟨e, ?_⟩
  show Int.toNat _ = _
  rw [e]
  rfl
theorem beginAnew_e (o : OM) (t : Nat) (a b c : Int) : ∃ o1, F_X3_beginAnew o t (I a) (I b) (I c) = some ((), o1) ∧ Ft o o1 t ∧ rd o1 5 t 0 = I a ∧ rd o1 5 t 1 = I b ∧ rd o1 5 t 2 = I c ∧ rd o1 5 t 3 = I 0 ∧ rd o1 5 t 4 = I 0 ∧ rd o1 5 t 5 = I (-1) ∧ rd o1 5 t 6 = I 0 ∧ rd o1 6 t 0 = I 0 := by
  refine ⟨wr (wr (wr (wr (wr (wr (wr (wr o 5 t 0 (I a)) 5 t 1 (I b)) 5 t 2 (I c)) 5 t 3 (I 0)) 5 t 4 (I 0)) 5 t 5 (I (-1))) 5 t 6 (I 0)) 6 t 0 (I 0), rfl, ((((((((Ft.rf o t).wr (by omega)).wr (by omega)).wr (by omega)).wr (by omega)).wr (by omega)).wr (by omega)).wr (by omega)).wr (by omega), ?_⟩
  simp (disch := omega) only [rd_wr, rd_wj, rd_wk]
  exact ⟨trivial, trivial, trivial, trivial, trivial, trivial, trivial, trivial⟩
