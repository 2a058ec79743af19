/-! the rows of the model: reading, writing, copying -/
def X (o : OM) (k : Nat) (a : Int) : Int32 := rd o k 0 (I a).toNatClampNeg
theorem X_d (o : OM) (k : Nat) (a : Int) : rd o k 0 (I a).toNatClampNeg = X o k a := rfl
theorem X_eq (o : OM) {k : Nat} {a b : Int} (v : Int32) (h1 : 0 ≤ a) (h2 : a < 2147483648) (h3 : 0 ≤ b) (h4 : b < 2147483648) : X (wr o k 0 (I b).toNatClampNeg v) k a = if a = b then v else X o k a := by
  unfold X
  rw [I_tc h1 h2, I_tc h3 h4]
  by_cases h : a = b
  · rw [if_pos h, h, rd_wr]
  · rw [if_neg h, rd_wj _ _ (by omega)]
theorem X_ne (o : OM) {k k' j : Nat} {a : Int} (v : Int32) (h : k' ≠ k) : X (wr o k 0 j v) k' a = X o k' a := rd_wk o v (Or.inl h)
/-- nothing but one row is changed -/
def Fk (o o1 : OM) (k : Nat) : Prop := (∀ k' i, ¬ (k' = k ∧ i = 0) → o1.1 k' i = o.1 k' i) ∧ o1.2 = o.2
theorem Fk.rf (o : OM) (k : Nat) : Fk o o k := ⟨fun _ _ _ => rfl, rfl⟩
theorem Fk.tr {o o1 o2 : OM} {k : Nat} (h : Fk o o1 k) (h' : Fk o1 o2 k) : Fk o o2 k := ⟨fun k' i hk => (h'.1 k' i hk).trans (h.1 k' i hk), h'.2.trans h.2⟩
theorem Fk.wr {o o1 : OM} {k j : Nat} {v : Int32} (h : Fk o o1 k) : Fk o (wr o1 k 0 j v) k := ⟨fun k' i hk => (wr_ne o1 v (by omega)).trans (h.1 k' i hk), h.2⟩
theorem Fk.rd {o o1 : OM} {k k' i j : Nat} (h : Fk o o1 k) (hk : k' ≠ k ∨ i ≠ 0) : rd o1 k' i j = rd o k' i j := by
  show o1.1 k' i j = _
  rw [h.1 k' i (by omega)]
  rfl
theorem Fk.X {o o1 : OM} {k k' : Nat} {a : Int} (h : Fk o o1 k) (hk : k' ≠ k) : X o1 k' a = X o k' a := h.rd (Or.inl hk)
theorem sh21 {P Q : Prop} [Decidable P] [Decidable Q] {α : Type} {a b : α} (h : P ↔ Q) : (if P then a else b) = (if Q then a else b) := by
  by_cases hp : P
  · rw [if_pos hp, if_pos (h.mp hp)]
  · rw [if_neg hp, if_neg (fun z => hp (h.mpr z))]
theorem X6_save_52_e (kk : OM → Option (Unit × OM)) {m : Int} : ∀ (fuel : Nat) (o : OM) (i : Int), rd o 19 0 3 = I m → 0 ≤ m → m < 6 → 0 ≤ i → i ≤ 244 → 244 < i + fuel →
    ∃ o1, LX6_save_52 kk fuel o (I i) = kk o1 ∧ Fk o o1 21 ∧ ∀ a : Int, 0 ≤ a → a < 1464 → X o1 21 a = if 244 * m + i ≤ a ∧ a < 244 * m + 244 then X o 20 (a - (244 * m) + (0)) else X o 21 a := by
  intro fuel
  induction fuel with
  | zero => intro o i hm hm0 hm1 h1 h2 h3; omega
  | succ fuel ih =>
    intro o i hm hm0 hm1 h1 h2 h3
    rw [LX6_save_52.eq_2]
    by_cases hi : 244 ≤ i
    · refine ⟨o, ?_, Fk.rf o 21, fun a ha1 ha2 => by rw [if_neg (by omega)]⟩
      simp (disch := omega) only [↓bd_e, bq_e, bn_e, grd_e, I_add, I_sub, I_mul, I_neg, isZ0, isZ1, isZ_tf, tf_z, tf_le, I_lit, I_inB, I_tcN, I_lt, I_le, I_eq, ↓reduceIte, not_true_eq_false, not_false_eq_true, nz, hi]
    · obtain ⟨o1, e1, f1, c1⟩ := ih (wr o 21 0 (I (244 * m + i)).toNatClampNeg (X o 20 (i))) (i + 1) (by rw [rd_wk _ _ (by omega)]; exact hm) hm0 hm1 (by omega) (by omega) (by omega)
      refine ⟨o1, ?_, ((Fk.rf o 21).wr).tr f1, fun a ha1 ha2 => ?_⟩
      · rw [← e1]
        simp (disch := omega) only [↓bd_e, bq_e, bn_e, grd_e, I_add, I_sub, I_mul, I_neg, isZ0, isZ1, isZ_tf, tf_z, tf_le, I_lit, I_inB, I_tcN, I_lt, I_le, I_eq, ↓reduceIte, not_true_eq_false, not_false_eq_true, nz, hi, hm, X_d]
      · rw [c1 a ha1 ha2, X_eq _ _ (by omega) (by omega) (by omega) (by omega)]
        by_cases h : a = 244 * m + i
        · rw [if_neg (by omega), if_pos h, if_pos (by omega)]
          congr 1
          omega
        · rw [if_neg h, X_ne _ _ (by omega)]
          exact sh21 (by omega)
theorem X6_undo_33_e (kk : OM → Option (Int32 × OM)) {m : Int} : ∀ (fuel : Nat) (o : OM) (i : Int), rd o 19 0 3 = I m → 0 ≤ m → m < 6 → 0 ≤ i → i ≤ 244 → 244 < i + fuel →
    ∃ o1, LX6_undo_33 kk fuel o (I i) = kk o1 ∧ Fk o o1 20 ∧ ∀ a : Int, 0 ≤ a → a < 244 → X o1 20 a = if i ≤ a ∧ a < 0 + 244 then X o 21 (a - (0) + (244 * m)) else X o 20 a := by
  intro fuel
  induction fuel with
  | zero => intro o i hm hm0 hm1 h1 h2 h3; omega
  | succ fuel ih =>
    intro o i hm hm0 hm1 h1 h2 h3
    rw [LX6_undo_33.eq_2]
    by_cases hi : 244 ≤ i
    · refine ⟨o, ?_, Fk.rf o 20, fun a ha1 ha2 => by rw [if_neg (by omega)]⟩
      simp (disch := omega) only [↓bd_e, bq_e, bn_e, grd_e, I_add, I_sub, I_mul, I_neg, isZ0, isZ1, isZ_tf, tf_z, tf_le, I_lit, I_inB, I_tcN, I_lt, I_le, I_eq, ↓reduceIte, not_true_eq_false, not_false_eq_true, nz, hi]
    · obtain ⟨o1, e1, f1, c1⟩ := ih (wr o 20 0 (I (i)).toNatClampNeg (X o 21 (244 * m + i))) (i + 1) (by rw [rd_wk _ _ (by omega)]; exact hm) hm0 hm1 (by omega) (by omega) (by omega)
      refine ⟨o1, ?_, ((Fk.rf o 20).wr).tr f1, fun a ha1 ha2 => ?_⟩
      · rw [← e1]
        simp (disch := omega) only [↓bd_e, bq_e, bn_e, grd_e, I_add, I_sub, I_mul, I_neg, isZ0, isZ1, isZ_tf, tf_z, tf_le, I_lit, I_inB, I_tcN, I_lt, I_le, I_eq, ↓reduceIte, not_true_eq_false, not_false_eq_true, nz, hi, hm, X_d]
      · rw [c1 a ha1 ha2, X_eq _ _ (by omega) (by omega) (by omega) (by omega)]
        by_cases h : a = i
        · rw [if_neg (by omega), if_pos h, if_pos (by omega)]
          congr 1
          omega
        · rw [if_neg h, X_ne _ _ (by omega)]
          exact sh21 (by omega)
theorem X6_keep_7_e (kk : OM → Option (Int32 × OM)) : ∀ (fuel : Nat) (o : OM) (i : Int), 0 ≤ i → i ≤ 244 → 244 < i + fuel →
    ∃ o1, LX6_keep_7 kk fuel o (I i) = kk o1 ∧ Fk o o1 22 ∧ ∀ a : Int, 0 ≤ a → a < 244 → X o1 22 a = if i ≤ a ∧ a < 0 + 244 then X o 20 (a - (0) + (0)) else X o 22 a := by
  intro fuel
  induction fuel with
  | zero => intro o i h1 h2 h3; omega
  | succ fuel ih =>
    intro o i h1 h2 h3
    rw [LX6_keep_7.eq_2]
    by_cases hi : 244 ≤ i
    · refine ⟨o, ?_, Fk.rf o 22, fun a ha1 ha2 => by rw [if_neg (by omega)]⟩
      simp (disch := omega) only [↓bd_e, bq_e, bn_e, grd_e, I_add, I_sub, I_mul, I_neg, isZ0, isZ1, isZ_tf, tf_z, tf_le, I_lit, I_inB, I_tcN, I_lt, I_le, I_eq, ↓reduceIte, not_true_eq_false, not_false_eq_true, nz, hi]
    · obtain ⟨o1, e1, f1, c1⟩ := ih (wr o 22 0 (I (i)).toNatClampNeg (X o 20 (i))) (i + 1) (by omega) (by omega) (by omega)
      refine ⟨o1, ?_, ((Fk.rf o 22).wr).tr f1, fun a ha1 ha2 => ?_⟩
      · rw [← e1]
        simp (disch := omega) only [↓bd_e, bq_e, bn_e, grd_e, I_add, I_sub, I_mul, I_neg, isZ0, isZ1, isZ_tf, tf_z, tf_le, I_lit, I_inB, I_tcN, I_lt, I_le, I_eq, ↓reduceIte, not_true_eq_false, not_false_eq_true, nz, hi, X_d]
      · rw [c1 a ha1 ha2, X_eq _ _ (by omega) (by omega) (by omega) (by omega)]
        by_cases h : a = i
        · rw [if_neg (by omega), if_pos h, if_pos (by omega)]
          congr 1
          omega
        · rw [if_neg h, X_ne _ _ (by omega)]
          exact sh21 (by omega)
theorem X6_restore_27_e (kk : OM → Option (Int32 × OM)) : ∀ (fuel : Nat) (o : OM) (i : Int), 0 ≤ i → i ≤ 244 → 244 < i + fuel →
    ∃ o1, LX6_restore_27 kk fuel o (I i) = kk o1 ∧ Fk o o1 20 ∧ ∀ a : Int, 0 ≤ a → a < 244 → X o1 20 a = if i ≤ a ∧ a < 0 + 244 then X o 22 (a - (0) + (0)) else X o 20 a := by
  intro fuel
  induction fuel with
  | zero => intro o i h1 h2 h3; omega
  | succ fuel ih =>
    intro o i h1 h2 h3
    rw [LX6_restore_27.eq_2]
    by_cases hi : 244 ≤ i
    · refine ⟨o, ?_, Fk.rf o 20, fun a ha1 ha2 => by rw [if_neg (by omega)]⟩
      simp (disch := omega) only [↓bd_e, bq_e, bn_e, grd_e, I_add, I_sub, I_mul, I_neg, isZ0, isZ1, isZ_tf, tf_z, tf_le, I_lit, I_inB, I_tcN, I_lt, I_le, I_eq, ↓reduceIte, not_true_eq_false, not_false_eq_true, nz, hi]
    · obtain ⟨o1, e1, f1, c1⟩ := ih (wr o 20 0 (I (i)).toNatClampNeg (X o 22 (i))) (i + 1) (by omega) (by omega) (by omega)
      refine ⟨o1, ?_, ((Fk.rf o 20).wr).tr f1, fun a ha1 ha2 => ?_⟩
      · rw [← e1]
        simp (disch := omega) only [↓bd_e, bq_e, bn_e, grd_e, I_add, I_sub, I_mul, I_neg, isZ0, isZ1, isZ_tf, tf_z, tf_le, I_lit, I_inB, I_tcN, I_lt, I_le, I_eq, ↓reduceIte, not_true_eq_false, not_false_eq_true, nz, hi, X_d]
      · rw [c1 a ha1 ha2, X_eq _ _ (by omega) (by omega) (by omega) (by omega)]
        by_cases h : a = i
        · rw [if_neg (by omega), if_pos h, if_pos (by omega)]
          congr 1
          omega
        · rw [if_neg h, X_ne _ _ (by omega)]
          exact sh21 (by omega)
theorem X6_save_11_e (kk : OM → Option (Unit × OM)) : ∀ (fuel : Nat) (o : OM) (i : Int), 0 ≤ i → i ≤ 1220 → 1220 < i + fuel →
    ∃ o1, LX6_save_11 kk fuel o (I i) = kk o1 ∧ Fk o o1 21 ∧ ∀ a : Int, 0 ≤ a → a < 1464 → X o1 21 a = if i ≤ a ∧ a < 1220 then X o 21 (a + 244) else X o 21 a := by
  intro fuel
  induction fuel with
  | zero => intro o i h1 h2 h3; omega
  | succ fuel ih =>
    intro o i h1 h2 h3
    rw [LX6_save_11.eq_2]
    by_cases hi : 1220 ≤ i
    · refine ⟨o, ?_, Fk.rf o 21, fun a ha1 ha2 => by rw [if_neg (by omega)]⟩
      simp (disch := omega) only [↓bd_e, bq_e, bn_e, grd_e, I_add, I_sub, I_mul, I_neg, isZ0, isZ1, isZ_tf, tf_z, tf_le, I_lit, I_inB, I_tcN, I_lt, I_le, I_eq, ↓reduceIte, not_true_eq_false, not_false_eq_true, nz, hi]
    · obtain ⟨o1, e1, f1, c1⟩ := ih (wr o 21 0 (I i).toNatClampNeg (X o 21 (i + 244))) (i + 1) (by omega) (by omega) (by omega)
      refine ⟨o1, ?_, ((Fk.rf o 21).wr).tr f1, fun a ha1 ha2 => ?_⟩
      · rw [← e1]
        simp (disch := omega) only [↓bd_e, bq_e, bn_e, grd_e, I_add, I_sub, I_mul, I_neg, isZ0, isZ1, isZ_tf, tf_z, tf_le, I_lit, I_inB, I_tcN, I_lt, I_le, I_eq, ↓reduceIte, not_true_eq_false, not_false_eq_true, nz, hi, X_d]
      · rw [c1 a ha1 ha2]
        by_cases h2 : i + 1 ≤ a ∧ a < 1220
        · rw [if_pos h2, X_eq _ _ (by omega) (by omega) (by omega) (by omega), if_neg (by omega), if_pos (by omega)]
        · rw [if_neg h2, X_eq _ _ (by omega) (by omega) (by omega) (by omega)]
          by_cases h : a = i
          · rw [if_pos h, if_pos (by omega), h]
          · rw [if_neg h, if_neg (by omega)]
/-- the model's store, as rows -/
def MA (o : OM) (k : Nat) (b : Int) (S : Int → Int) : Prop := ∀ a : Int, 0 ≤ a → a < 244 → X o k (b + a) = I (S a)
theorem MS_MA {o : OM} {S : Int → Int} : MS o S ↔ MA o 20 0 S := by
  constructor
  · intro h a h1 h2
    rw [Int.zero_add]
    exact h a h1 h2
  · intro h a h1 h2
    have := h a h1 h2
    rw [Int.zero_add] at this
    exact this
/-- what is saved, oldest first -/
def MV (o : OM) (m : Nat) (V : Nat → Int → Int) : Prop := rd o 19 0 3 = I (m : Int) ∧ ∀ i : Nat, i < m → MA o 21 (244 * (i : Int)) (V i)
theorem save_tail {S : Int → Int} {F : Nat} (hFU : 1500 < F) (o : OM) (q : Nat) (W : Nat → Int → Int) (hq : q < 6) (hS : MS o S) (h3 : rd o 19 0 3 = I (q : Int)) (hW : ∀ i : Nat, i < q → MA o 21 (244 * (i : Int)) (W i)) : ∃ o1, LX6_save_52 (fun o_2 => bd (wr o_2 19 0 3 ((rd o_2 19 0 3) + ((1 : Int32)))) (fun o_3 : OM => some ((), o_3))) F o (I 0) = some ((), o1) ∧ (∀ k i, ¬ ((k = 21 ∨ k = 19) ∧ i = 0) → o1.1 k i = o.1 k i) ∧ o1.2 = o.2 ∧ (∀ j, j ≠ 3 → rd o1 19 0 j = rd o 19 0 j) ∧ MV o1 (q + 1) (fun i => if i = q then S else W i) := by
  obtain ⟨o1, e1, f1, c1⟩ := X6_save_52_e (fun o_2 => bd (wr o_2 19 0 3 ((rd o_2 19 0 3) + ((1 : Int32)))) (fun o_3 : OM => some ((), o_3))) (m := (q : Int)) F o 0 h3 (by omega) (by omega) (by omega) (by omega) (by omega)
  have g3 : rd o1 19 0 3 = I (q : Int) := by rw [f1.rd (by omega), h3]
  refine ⟨wr o1 19 0 3 (I ((q : Int) + 1)), ?_, fun k i hk => ?_, ?_, fun j hj => ?_, ?_, fun i hi a ha1 ha2 => ?_⟩
  · rw [e1]
    simp (disch := omega) only [↓bd_e, bq_e, bn_e, grd_e, I_add, I_sub, I_mul, I_neg, isZ0, isZ1, isZ_tf, tf_z, tf_le, I_lit, I_inB, I_tcN, I_lt, I_le, I_eq, ↓reduceIte, not_true_eq_false, not_false_eq_true, nz, g3]
  · rw [wr_ne _ _ (by omega), f1.1 k i (by omega)]
  · exact f1.2
  · rw [rd_wj _ _ hj, f1.rd (by omega)]
  · rw [rd_wr]; rfl
  · rw [X_ne _ _ (by omega), c1 _ (by omega) (by omega)]
    dsimp only
    by_cases hiq : i = q
    · rw [if_pos (by omega), if_pos hiq]
      have := MS_MA.mp hS a ha1 ha2
      rw [Int.zero_add] at this
      rw [← this]
      congr 1
      omega
    · rw [if_neg (by omega), if_neg hiq]
      exact hW i (by omega) a ha1 ha2
theorem save_e {o : OM} {S : Int → Int} {m : Nat} {V : Nat → Int → Int} (hS : MS o S) (hV : MV o m V) (hm : m ≤ 6) :
    ∃ o1, F_X6_save o = some ((), o1) ∧ (∀ k i, ¬ ((k = 21 ∨ k = 19) ∧ i = 0) → o1.1 k i = o.1 k i) ∧ o1.2 = o.2 ∧ (∀ j, j ≠ 3 → rd o1 19 0 j = rd o 19 0 j) ∧ (if m = 6 then MV o1 6 (fun i => if i = 5 then S else V (i + 1)) else MV o1 (m + 1) (fun i => if i = m then S else V i)) := by
  obtain ⟨h3, hV⟩ := hV
  unfold F_X6_save
  have hFU : 1500 < FU := by unfold FU; omega
  generalize FU = F at hFU ⊢
  by_cases h6 : m = 6
  · have e6 : ((m : Int) = 6) = True := eq_true (by omega)
    obtain ⟨o1, e1, f1, c1⟩ := X6_save_11_e (fun (o_8 : OM) => bd (wr o_8 19 0 3 ((rd o_8 19 0 3) - ((1 : Int32)))) (fun o_9 : OM => LX6_save_52 (fun o_2 => bd (wr o_2 19 0 3 ((rd o_2 19 0 3) + ((1 : Int32)))) (fun o_3 : OM => some ((), o_3))) F o_9 (I 0))) F o 0 (by omega) (by omega) (by omega)
    have g3 : rd o1 19 0 3 = I (m : Int) := by rw [f1.rd (by omega), h3]
    obtain ⟨o2, e2, f2, f3, f4, f5⟩ := save_tail hFU (wr o1 19 0 3 (I ((5 : Nat) : Int))) 5 (fun i => V (i + 1)) (by omega) (fun a h1 h2 => by
      rw [rd_wk _ _ (by omega), f1.rd (by omega)]
      exact hS a h1 h2) (by rw [rd_wr]) (fun i hi a ha1 ha2 => by
      rw [X_ne _ _ (by omega), c1 _ (by omega) (by omega), if_pos (by omega)]
      have := hV (i + 1) (by omega) a ha1 ha2
      rw [← this]
      congr 1
      omega)
    refine ⟨o2, ?_, fun k i hk => ?_, ?_, fun j hj => ?_, ?_⟩
    · have z6 : (6 : Int32) = I 6 := rfl
      have z0 : (0 : Int32) = I 0 := rfl
      rw [bd_e, bd_e, h3, z6, if_pos (by rw [h6]; rfl), z0]
      refine e1.trans ?_
      have z1 : (1 : Int32) = I 1 := rfl
      rw [bd_e, g3, z1, I_sub, show (m : Int) - 1 = ((5 : Nat) : Int) from by omega, ← z1]
      exact e2
    · rw [f2 k i hk, wr_ne _ _ (by omega), f1.1 k i (by omega)]
    · rw [f3]
      exact f1.2
    · rw [f4 j hj, rd_wj _ _ hj, f1.rd (by omega)]
    · rw [if_pos h6]
      exact f5
  · obtain ⟨o2, e2, f2, f3, f4, f5⟩ := save_tail hFU o m V (by omega) hS h3 hV
    refine ⟨o2, ?_, f2, f3, f4, by rw [if_neg h6]; exact f5⟩
    have z6 : (6 : Int32) = I 6 := rfl
    have z0 : (0 : Int32) = I 0 := rfl
    rw [bd_e, bd_e, h3, z6, if_neg (fun z => by have := I_inj (by omega) (by omega) (by omega) (by omega) z; omega), z0]
    exact e2
