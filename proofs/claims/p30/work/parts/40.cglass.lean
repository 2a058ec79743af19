/-! the program's looks, beside the row of numbers -/
def TC (m : Nat → Nat → Int32) (S : Int → Int) (g : Nat) : Prop :=
  m 5 0 = I (S (38 * (g : Int) + 0)) ∧ m 5 1 = I (S (38 * (g : Int) + 1)) ∧ m 5 2 = I (S (38 * (g : Int) + 2)) ∧ m 5 3 = I (S (38 * (g : Int) + 3)) ∧ m 5 4 = I (S (38 * (g : Int) + 4)) ∧ m 5 5 = I (S (38 * (g : Int) + 5)) ∧ m 5 6 = I (S (38 * (g : Int) + 6)) ∧
  m 6 0 = I (gn S g : Int) ∧ PA m (gn S g) (pr S g) (pd S g) (py S g)
def CS (o : OM) (j : Nat) (S : Int → Int) : Prop :=
  rd o 1 j 0 = I (S 233) ∧ rd o 1 j 1 = I (S 234) ∧ rd o 1 j 2 = I (S 228) ∧ rd o 1 j 3 = I (S 244) ∧ rd o 1 j 4 = I (S 245) ∧
  (∀ a : Int, 0 ≤ a → a < 4 → rd o 2 j (I a).toNatClampNeg = I (S (229 + a))) ∧ (∀ a : Int, 0 ≤ a → a < 7 → rd o 3 j (I a).toNatClampNeg = I (S (235 + a))) ∧
  ∀ g : Nat, g < gm S → TC (fun k => o.1 k (tid j (rd o 4 j g))) S g
section
variable {o : OM} {S : Int → Int} {g Y t : Nat}
theorem TC.p (h : TC (fun k => o.1 k t) S g) : PA (fun k => o.1 k t) (gn S g) (pr S g) (pd S g) (py S g) := h.2.2.2.2.2.2.2.2
theorem TC.n (h : TC (fun k => o.1 k t) S g) : rd o 6 t 0 = I (gn S g : Int) := h.2.2.2.2.2.2.2.1
theorem readingAt_e (h : TC (fun k => o.1 k t) S g) (hG : GB S g Y) {z : Int} (h1 : -400 ≤ z) (h2 : z ≤ 1500) : F_X3_readingAt o t (I z) = some (I (rdg S g z)) := by
  have hr := rdg_rg hG h1 h2
  have t0 : rd o 5 t 0 = I (S (38 * (g : Int) + 0)) := h.1
  have t1 : rd o 5 t 1 = I (S (38 * (g : Int) + 1)) := h.2.1
  have t4 : rd o 5 t 4 = I (S (38 * (g : Int) + 4)) := h.2.2.2.2.1
  unfold F_X3_readingAt
  simp (disch := omega) only [↓bd_e, bq_e, bn_e, grd_e, I_add, I_sub, I_mul, I_neg, isZ0, isZ1, isZ_tf, tf_z, tf_le, I_lit, I_inB, I_tcN, I_lt, I_le, I_eq, ↓reduceIte, not_true_eq_false, not_false_eq_true, nz, t0, t1, t4, floorDiv_e]
  rfl
theorem creepOf_e (hC : CS o 0 S) (hB : SB S Y) (h : TC (fun k => o.1 k t) S g) (hG : GB S g Y) : F_X2_creepOf o 0 t = some (I (S (235 + S (38 * (g : Int) + 2)))) := by
  have t2 : rd o 5 t 2 = I (S (38 * (g : Int) + 2)) := h.2.2.1
  have hb := hG.2.2.1
  have hs := hC.2.2.2.2.2.2.1
  have c1 : (S (38 * (g : Int) + 2) < 0) = False := eq_false (by omega)
  have c2 : (3 < S (38 * (g : Int) + 2)) = False := eq_false (by omega)
  unfold F_X2_creepOf
  simp (disch := omega) only [↓bd_e, bq_e, bn_e, grd_e, I_add, I_sub, I_mul, I_neg, isZ0, isZ1, isZ_tf, tf_z, tf_le, I_lit, I_inB, I_tcN, I_lt, I_le, I_eq, ↓reduceIte, not_true_eq_false, not_false_eq_true, nz, t2, c1, c2, hs]
theorem creepOfYear_e (o : OM) {a b : Int} (h1 : 0 ≤ a) (h2 : a ≤ 1000) (h3 : 0 ≤ b) (h4 : b ≤ 2000000) : F_X3_creepOfYear o (I a) (I b) = some (I (a / (b + 1))) := by
  have c : (b + 1 ≤ 0) = False := eq_false (by omega)
  unfold F_X3_creepOfYear
  simp (disch := omega) only [↓bd_e, bq_e, bn_e, grd_e, I_add, I_sub, I_mul, I_neg, isZ0, isZ1, isZ_tf, tf_z, tf_le, I_lit, I_inB, I_tcN, I_lt, I_le, I_eq, ↓reduceIte, not_true_eq_false, not_false_eq_true, nz, c, floorDiv_e]
theorem isValid_e (hC : CS o 0 S) (hB : SB S Y) (hY : Y ≤ 1000000) (h : TC (fun k => o.1 k t) S g) (hG : GB S g Y) : F_X2_isValid o 0 t = some (I (val S g)) := by
  have t4 : rd o 5 t 4 = I (S (38 * (g : Int) + 4)) := h.2.2.2.2.1
  have t5 : rd o 5 t 5 = I (S (38 * (g : Int) + 5)) := h.2.2.2.2.2.1
  have t6 : rd o 5 t 6 = I (S (38 * (g : Int) + 6)) := h.2.2.2.2.2.2.1
  have hs := hC.2.2.2.2.2.2.1
  obtain ⟨a1, a2, a3, a4, a5, a6, a7, -⟩ := hG
  have h6 := hB.2.2.2.2.1 6 (by omega) (by omega)
  rw [if_neg (by omega), if_neg (by omega)] at h6
  have h6' : 0 ≤ S 241 ∧ S 241 ≤ 100 := h6
  unfold F_X2_isValid val
  by_cases c1 : S (38 * (g : Int) + 5) = -1
  · simp (disch := omega) only [↓bd_e, bq_e, bn_e, grd_e, I_add, I_sub, I_mul, I_neg, isZ0, isZ1, isZ_tf, tf_z, tf_le, I_lit, I_inB, I_tcN, I_lt, I_le, I_eq, ↓reduceIte, not_true_eq_false, not_false_eq_true, nz, t4, t5, t6, hs, c1, false_and]
  · by_cases c2 : S 241 < S (38 * (g : Int) + 4) - S (38 * (g : Int) + 6)
    · simp (disch := omega) only [↓bd_e, bq_e, bn_e, grd_e, I_add, I_sub, I_mul, I_neg, isZ0, isZ1, isZ_tf, tf_z, tf_le, I_lit, I_inB, I_tcN, I_lt, I_le, I_eq, ↓reduceIte, not_true_eq_false, not_false_eq_true, nz, t4, t5, t6, hs, Int.reduceAdd, c1, c2, and_false]
    · simp (disch := omega) only [↓bd_e, bq_e, bn_e, grd_e, I_add, I_sub, I_mul, I_neg, isZ0, isZ1, isZ_tf, tf_z, tf_le, I_lit, I_inB, I_tcN, I_lt, I_le, I_eq, ↓reduceIte, not_true_eq_false, not_false_eq_true, nz, t4, t5, t6, hs, Int.reduceAdd, c1, c2, and_self]
theorem isOld_e (hC : CS o 0 S) (hB : SB S Y) (hY : Y ≤ 1000000) {y : Int} (h1 : 0 ≤ y) (h2 : y ≤ 1000000) : F_X2_isOld o 0 (I y) = some (I (if S 239 < S 233 - y then 1 else 0)) := by
  have hs := hC.2.2.2.2.2.2.1
  have s0 := hC.1
  have h4 := hB.2.2.2.2.1 4 (by omega) (by omega)
  rw [if_neg (by omega), if_pos rfl] at h4
  have h4' : 0 ≤ S 239 ∧ S 239 ≤ 20 := h4
  have h233 := hB.2.2.1
  unfold F_X2_isOld
  by_cases c : S 233 - y ≤ S 239
  · rw [if_neg (by omega)]
    simp (disch := omega) only [↓bd_e, bq_e, bn_e, grd_e, I_add, I_sub, I_mul, I_neg, isZ0, isZ1, isZ_tf, tf_z, tf_le, I_lit, I_inB, I_tcN, I_lt, I_le, I_eq, ↓reduceIte, not_true_eq_false, not_false_eq_true, nz, hs, s0, Int.reduceAdd, c]
  · rw [if_pos (by omega)]
    simp (disch := omega) only [↓bd_e, bq_e, bn_e, grd_e, I_add, I_sub, I_mul, I_neg, isZ0, isZ1, isZ_tf, tf_z, tf_le, I_lit, I_inB, I_tcN, I_lt, I_le, I_eq, ↓reduceIte, not_true_eq_false, not_false_eq_true, nz, hs, s0, Int.reduceAdd, c]
theorem correctByTree_f (h : TC (fun k => o.1 k t) S g) (hG : GB S g Y) (h2 : 2 ≤ gn S g) {x : Int} (hx1 : -200000 ≤ x) (hx2 : x ≤ 200000) : F_X1_correctByTree o t (I x) = some (I (corf (pr S g) (pd S g) (gn S g) x)) := by
  obtain ⟨v, hv, e⟩ := correctByTree_e h.n h.p hG.p h2 hx1 hx2
  rw [e, corf_u hG.p h2 hG.s hv]
theorem correctByOrder_f (h : TC (fun k => o.1 k t) S g) (hG : GB S g Y) (h2 : 2 ≤ gn S g) {x : Int} (hx1 : -200000 ≤ x) (hx2 : x ≤ 200000) : F_X1_correctByOrder o t (I x) = some (I (corf (pr S g) (pd S g) (gn S g) x)) := by
  obtain ⟨v, hv, e⟩ := correctByOrder_e h.n h.p hG.p h2 hx1 hx2
  rw [e, corf_u hG.p h2 hG.s hv]
theorem overlapWith_e {t' h : Nat} (hT : TC (fun k => o.1 k t) S g) (hT' : TC (fun k => o.1 k t') S h) (hG : GB S g Y) (hH : GB S h Y) {z : Int} (h1 : -400 ≤ z) (h2 : z ≤ 1500) : F_X3_overlapWith o t t' (I z) = some (I (ovl S g h z)) := by
  have n1 := hT.n
  have n2 := hT'.n
  have hn1 := hG.p.1
  have hn2 := hH.p.1
  have b1 := readingAt_e hT hG h1 h2
  have b2 := readingAt_e hT' hH h1 h2
  unfold F_X3_overlapWith ovl
  by_cases c1 : 2 ≤ gn S g
  · have c1' : ((gn S g : Int) < 2) = False := eq_false (by omega)
    by_cases c2 : 2 ≤ gn S h
    · have c2' : (2 ≤ (gn S h : Int)) = True := eq_true (by omega)
      have r1 := (rdg_rg hG h1 h2).2
      have r2 := (rdg_rg hH h1 h2).2
      have d1 := correctByTree_f hT hG c1 (x := rdg S g z) (by omega) (by omega)
      have d2 := correctByTree_f hT' hH c2 (x := rdg S h z) (by omega) (by omega)
      have e1 := corf_rg hG.p c1 hG.s (x := rdg S g z) (by omega) (by omega)
      have e2 := corf_rg hH.p c2 hH.s (x := rdg S h z) (by omega) (by omega)
      rw [if_neg (by omega)]
      simp (disch := omega) only [↓bd_e, bq_e, bn_e, grd_e, I_add, I_sub, I_mul, I_neg, isZ0, isZ1, isZ_tf, tf_z, tf_le, I_lit, I_inB, I_tcN, I_lt, I_le, I_eq, ↓reduceIte, not_true_eq_false, not_false_eq_true, nz, n1, n2, b1, b2, d1, d2, c1', c2', abs_e]
    · have c2' : (2 ≤ (gn S h : Int)) = False := eq_false (by omega)
      rw [if_pos (by omega)]
      simp (disch := omega) only [↓bd_e, bq_e, bn_e, grd_e, I_add, I_sub, I_mul, I_neg, isZ0, isZ1, isZ_tf, tf_z, tf_le, I_lit, I_inB, I_tcN, I_lt, I_le, I_eq, ↓reduceIte, not_true_eq_false, not_false_eq_true, nz, n1, n2, c1', c2']
  · have c1' : ((gn S g : Int) < 2) = True := eq_true (by omega)
    rw [if_pos (by omega)]
    simp (disch := omega) only [↓bd_e, bq_e, bn_e, grd_e, I_add, I_sub, I_mul, I_neg, isZ0, isZ1, isZ_tf, tf_z, tf_le, I_lit, I_inB, I_tcN, I_lt, I_le, I_eq, ↓reduceIte, not_true_eq_false, not_false_eq_true, nz, n1, c1']
theorem indexOf_f (h : TC (fun k => o.1 k t) S g) (hG : GB S g Y) {z : Int} (h1 : -400 ≤ z) (h2 : z ≤ 1500) : F_X1_indexOf o t (I z) = some (I (ixf (pd S g) z (gn S g))) := by
  obtain ⟨f, hf, e⟩ := indexOf_e h.n h.p hG.p (z := z) (by omega) (by omega)
  rw [e, IX_u hG.p.2.2.1 hf (ixf_sp (pd S g) z (gn S g))]
theorem ccrosses_f (h : TC (fun k => o.1 k t) S g) (hG : GB S g Y) {z : Int} (h1 : -400 ≤ z) (h2 : z ≤ 1500) : F_X1_crosses o t (I (rdg S g z)) (I z) = some (I (crf (pr S g) (pd S g) (gn S g) (rdg S g z) z)) := by
  have hr := rdg_rg hG h1 h2
  exact crf_of (crosses_e h.n h.p hG.p (by omega) (by omega) (by omega) (by omega))
theorem reasonNot_e (h : TC (fun k => o.1 k t) S g) (hG : GB S g Y) {z : Int} (h1 : -400 ≤ z) (h2 : z ≤ 1500) : F_X3_reasonNotToMeasure o t (I z) = some (I (hnd S g z)) := by
  have hn := h.n
  have hn10 := hG.p.1
  have hc := ccrosses_f h hG h1 h2
  have hr := readingAt_e h hG h1 h2
  have hp := indexOf_f h hG h1 h2
  have hx := ixf_rg (pd S g) z (gn S g)
  have hc1 := crf_rg (pr S g) (pd S g) (gn S g) (rdg S g z) z
  unfold F_X3_reasonNotToMeasure hnd
  by_cases e1 : gn S g = 10
  · have e1' : ((gn S g : Int) < 10) = False := eq_false (by omega)
    by_cases e2 : ixf (pd S g) z (gn S g) = -1
    · rw [if_pos ⟨e1, e2⟩]
      simp (disch := omega) only [↓bd_e, bq_e, bn_e, grd_e, I_add, I_sub, I_mul, I_neg, isZ0, isZ1, isZ_tf, tf_z, tf_le, I_lit, I_inB, I_tcN, I_lt, I_le, I_eq, ↓reduceIte, not_true_eq_false, not_false_eq_true, nz, hn, hc, hr, hp, e1', e2]
    · rw [if_neg (fun z => e2 z.2)]
      by_cases e3 : crf (pr S g) (pd S g) (gn S g) (rdg S g z) z = 0
      · simp (disch := omega) only [↓bd_e, bq_e, bn_e, grd_e, I_add, I_sub, I_mul, I_neg, isZ0, isZ1, isZ_tf, tf_z, tf_le, I_lit, I_inB, I_tcN, I_lt, I_le, I_eq, ↓reduceIte, not_true_eq_false, not_false_eq_true, nz, hn, hc, hr, hp, e1', e2, e3]
      · simp (disch := omega) only [↓bd_e, bq_e, bn_e, grd_e, I_add, I_sub, I_mul, I_neg, isZ0, isZ1, isZ_tf, tf_z, tf_le, I_lit, I_inB, I_tcN, I_lt, I_le, I_eq, ↓reduceIte, not_true_eq_false, not_false_eq_true, nz, hn, hc, hr, hp, e1', e2, e3]
  · have e1' : ((gn S g : Int) < 10) = True := eq_true (by omega)
    rw [if_neg (fun z => e1 z.1)]
    by_cases e3 : crf (pr S g) (pd S g) (gn S g) (rdg S g z) z = 0
    · simp (disch := omega) only [↓bd_e, bq_e, bn_e, grd_e, I_add, I_sub, I_mul, I_neg, isZ0, isZ1, isZ_tf, tf_z, tf_le, I_lit, I_inB, I_tcN, I_lt, I_le, I_eq, ↓reduceIte, not_true_eq_false, not_false_eq_true, nz, hn, hc, hr, hp, e1', e3]
    · simp (disch := omega) only [↓bd_e, bq_e, bn_e, grd_e, I_add, I_sub, I_mul, I_neg, isZ0, isZ1, isZ_tf, tf_z, tf_le, I_lit, I_inB, I_tcN, I_lt, I_le, I_eq, ↓reduceIte, not_true_eq_false, not_false_eq_true, nz, hn, hc, hr, hp, e1', e3]
theorem creason_loop (hC : CS o 0 S) (hB : SB S Y) (hY : Y ≤ 1000000) (hg : g < gm S) (hT : TC (fun k => o.1 k t) S g) (hv0 : val S g = 0) (k136 k145 : Unit → Option Int32) : ∀ (fuel i : Nat), gm S < i + fuel → i ≤ gm S → ¬ Dif S g i →
    LX2_reasonForNoPaper_79 k136 k145 o 0 t fuel (I (i : Int)) = if dif S g = 1 then k136 () else k145 () := by
  have hm := hB.m
  have hs228 := hm.1
  have s2 := hC.2.2.1
  rw [hs228] at s2
  have hs := hC.2.2.2.2.2.2.1
  have hG := hB.g hg
  have t2 : rd o 5 t 2 = I (S (38 * (g : Int) + 2)) := hT.2.2.1
  have h5 := hB.2.2.2.2.1 5 (by omega) (by omega)
  rw [if_neg (by omega), if_neg (by omega)] at h5
  have h5' : 0 ≤ S 240 ∧ S 240 ≤ 100 := h5
  have e10 : ((1 : Int) = 0) = False := by simp
  have mono : ∀ {a b : Nat}, a ≤ b → Dif S g a → Dif S g b := fun hab ⟨j, hj, hz⟩ => ⟨j, by omega, hz⟩
  intro fuel
  induction fuel with
  | zero => intro i h1 h2; omega
  | succ fuel ih =>
    intro i h1 h2 hc
    have e : (I ((i : Int) + 1)) = I ((i + 1 : Nat) : Int) := rfl
    rw [LX2_reasonForNoPaper_79.eq_2]
    by_cases hi : (gm S : Int) ≤ (i : Int)
    · have : i = gm S := by omega
      have hd : dif S g = 0 := by unfold dif; rw [if_neg (by rw [← this]; exact hc)]
      rw [hd, if_neg (by omega)]
      simp (disch := omega) only [↓bd_e, bq_e, bn_e, grd_e, I_add, I_sub, I_mul, I_neg, isZ0, isZ1, isZ_tf, tf_z, tf_le, I_lit, I_inB, I_tcN, I_lt, I_le, I_eq, ↓reduceIte, not_true_eq_false, not_false_eq_true, nz, s2, hi]
    · have hI := hB.g (g := i) (by omega)
      have hTi := hC.2.2.2.2.2.2.2 i (by omega)
      have i2 : rd o 5 (tid 0 (rd o 4 0 i)) 2 = I (S (38 * (i : Int) + 2)) := hTi.2.2.1
      have hv := isValid_e hC hB hY hTi hI
      have hov := overlapWith_e hT hTi hG hI (z := 500) (by omega) (by omega)
      have hovr := ovl_rg hG hI (z := 500) (by omega) (by omega)
      have hvr := val_01 S i
      have b1 := hG.2.2.1
      have b2 := hI.2.2.1
      by_cases ht : i ≠ g ∧ S (38 * (i : Int) + 2) = S (38 * (g : Int) + 2) ∧ val S i = 1 ∧ S 240 < ovl S g i 500
      · have hd2 : Dif S g (i + 1) := ⟨i, by omega, ht⟩
        have hdif : dif S g = 1 := by unfold dif; rw [if_pos (mono (by omega) hd2)]
        rw [hdif, if_pos rfl]
        have c2 := ht.2.1
        have c4 : (ovl S g i 500 ≤ S 240) = False := eq_false (by omega)
        simp (disch := omega) only [↓bd_e, bq_e, bn_e, grd_e, I_add, I_sub, I_mul, I_neg, isZ0, isZ1, isZ_tf, tf_z, tf_le, I_lit, I_inB, I_tcN, I_lt, I_le, I_eq, ↓reduceIte, not_true_eq_false, not_false_eq_true, nz, s2, hi, t2, i2, c2, hv, ht.2.2.1, e10, hov, hs, Int.reduceAdd, c4]
      · have hd2 : ¬ Dif S g (i + 1) := fun ⟨j, hj, hz⟩ => by
          by_cases hji : j = i
          · rw [hji] at hz; exact ht hz
          · exact hc ⟨j, by omega, hz⟩
        have hrec := ih (i + 1) (by omega) (by omega) hd2
        by_cases c2 : S (38 * (i : Int) + 2) = S (38 * (g : Int) + 2)
        · by_cases c3 : val S i = 0
          · simp (disch := omega) only [↓bd_e, bq_e, bn_e, grd_e, I_add, I_sub, I_mul, I_neg, isZ0, isZ1, isZ_tf, tf_z, tf_le, I_lit, I_inB, I_tcN, I_lt, I_le, I_eq, ↓reduceIte, not_true_eq_false, not_false_eq_true, nz, s2, hi, t2, i2, c2, hv, c3]
            rw [e]; exact hrec
          · have c1 : i ≠ g := fun z => c3 (by rw [z]; exact hv0)
            have c4 : (ovl S g i 500 ≤ S 240) = True := eq_true (by
              apply Classical.byContradiction
              intro hz
              exact ht ⟨c1, c2, by omega, by omega⟩)
            simp (disch := omega) only [↓bd_e, bq_e, bn_e, grd_e, I_add, I_sub, I_mul, I_neg, isZ0, isZ1, isZ_tf, tf_z, tf_le, I_lit, I_inB, I_tcN, I_lt, I_le, I_eq, ↓reduceIte, not_true_eq_false, not_false_eq_true, nz, s2, hi, t2, i2, c2, hv, c3, hov, hs, Int.reduceAdd, c4]
            rw [e]; exact hrec
        · simp (disch := omega) only [↓bd_e, bq_e, bn_e, grd_e, I_add, I_sub, I_mul, I_neg, isZ0, isZ1, isZ_tf, tf_z, tf_le, I_lit, I_inB, I_tcN, I_lt, I_le, I_eq, ↓reduceIte, not_true_eq_false, not_false_eq_true, nz, s2, hi, t2, i2, c2]
          rw [e]; exact hrec
theorem reasonForNoPaper_e (hC : CS o 0 S) (hB : SB S Y) (hY : Y ≤ 1000000) (hg : g < gm S) (hT : TC (fun k => o.1 k t) S g) : F_X2_reasonForNoPaper o 0 t = some (I (ref S g)) := by
  have hm := hB.m
  have hG := hB.g hg
  have hn10 := hG.p.1
  have p0 := indexOf_f hT hG (z := 0) (by omega) (by omega)
  have p1 := indexOf_f hT hG (z := 1000) (by omega) (by omega)
  have x0 := ixf_rg (pd S g) 0 (gn S g)
  have x1 := ixf_rg (pd S g) 1000 (gn S g)
  have hv := isValid_e hC hB hY hT hG
  have v01 := val_01 S g
  have d01 := dif_01 S g
  have o0 := oldf_01 S g 0
  have o1 := oldf_01 S g 1000
  have hy : ∀ k, k < gn S g → rd o 9 t k = I (py S g k) := fun k hk => (hT.p k hk).2.2.1
  unfold F_X2_reasonForNoPaper ref
  by_cases c0 : ixf (pd S g) 0 (gn S g) = -1
  · simp (disch := omega) only [↓bd_e, bq_e, bn_e, grd_e, I_add, I_sub, I_mul, I_neg, isZ0, isZ1, isZ_tf, tf_z, tf_le, I_lit, I_inB, I_tcN, I_lt, I_le, I_eq, ↓reduceIte, not_true_eq_false, not_false_eq_true, nz, p0, p1, c0, true_or]
  · by_cases c1 : ixf (pd S g) 1000 (gn S g) = -1
    · simp (disch := omega) only [↓bd_e, bq_e, bn_e, grd_e, I_add, I_sub, I_mul, I_neg, isZ0, isZ1, isZ_tf, tf_z, tf_le, I_lit, I_inB, I_tcN, I_lt, I_le, I_eq, ↓reduceIte, not_true_eq_false, not_false_eq_true, nz, p0, p1, c0, c1, or_true]
    · obtain ⟨a, ha⟩ : ∃ k : Nat, ixf (pd S g) 0 (gn S g) = (k : Int) := ⟨(ixf (pd S g) 0 (gn S g)).toNat, by omega⟩
      obtain ⟨b, hb⟩ : ∃ k : Nat, ixf (pd S g) 1000 (gn S g) = (k : Int) := ⟨(ixf (pd S g) 1000 (gn S g)).toNat, by omega⟩
      have ya := hy a (by omega)
      have yb := hy b (by omega)
      have ra := (hG.p.2.2.2.2 a (by omega)).2.2
      have rb := (hG.p.2.2.2.2 b (by omega)).2.2
      have q0 := isOld_e hC hB hY (y := py S g a) ra.1 ra.2
      have q1 := isOld_e hC hB hY (y := py S g b) rb.1 rb.2
      have u0 : (if S 239 < S 233 - py S g a then 1 else 0 : Int) = oldf S g 0 := by unfold oldf; rw [ha, Int.toNat_natCast]
      have u1 : (if S 239 < S 233 - py S g b then 1 else 0 : Int) = oldf S g 1000 := by unfold oldf; rw [hb, Int.toNat_natCast]
      rw [u0] at q0
      rw [u1] at q1
      rw [ha] at p0 c0
      rw [hb] at p1 c1
      rw [ha, hb]
      have e01 : ((0 : Int) = 1) = False := by simp
      have e10 : ((1 : Int) = 0) = False := by simp
      rcases o0 with o0 | o0
      · rcases o1 with o1 | o1
        · rcases v01 with v | v
          · simp (disch := omega) only [↓bd_e, bq_e, bn_e, grd_e, I_add, I_sub, I_mul, I_neg, isZ0, isZ1, isZ_tf, tf_z, tf_le, I_lit, I_inB, I_tcN, I_lt, I_le, I_eq, ↓reduceIte, not_true_eq_false, not_false_eq_true, nz, p0, p1, c0, c1, ya, yb, q0, q1, o0, o1, hv, v, or_self, e01]
            refine (creason_loop hC hB hY hg hT v _ _ FU 0 (by unfold FU; omega) (by omega) (fun ⟨j, hj, _⟩ => by omega)).trans ?_
            split <;> rfl
          · simp (disch := omega) only [↓bd_e, bq_e, bn_e, grd_e, I_add, I_sub, I_mul, I_neg, isZ0, isZ1, isZ_tf, tf_z, tf_le, I_lit, I_inB, I_tcN, I_lt, I_le, I_eq, ↓reduceIte, not_true_eq_false, not_false_eq_true, nz, p0, p1, c0, c1, ya, yb, q0, q1, o0, o1, hv, v, or_self, e01, e10]
        · simp (disch := omega) only [↓bd_e, bq_e, bn_e, grd_e, I_add, I_sub, I_mul, I_neg, isZ0, isZ1, isZ_tf, tf_z, tf_le, I_lit, I_inB, I_tcN, I_lt, I_le, I_eq, ↓reduceIte, not_true_eq_false, not_false_eq_true, nz, p0, p1, c0, c1, ya, yb, q0, q1, o0, o1, or_self, or_true, e01, e10]
      · simp (disch := omega) only [↓bd_e, bq_e, bn_e, grd_e, I_add, I_sub, I_mul, I_neg, isZ0, isZ1, isZ_tf, tf_z, tf_le, I_lit, I_inB, I_tcN, I_lt, I_le, I_eq, ↓reduceIte, not_true_eq_false, not_false_eq_true, nz, p0, p1, c0, c1, ya, yb, q0, q1, o0, or_self, true_or, e01, e10]
theorem cvoid_loop (hC : CS o 0 S) (hB : SB S Y) (hY : Y ≤ 1000000) (hT : TC (fun k => o.1 k t) S g) (hG : GB S g Y) (k39 : Int32 → Option Int32) (k64 : Unit → Option Int32) (hk : ∀ v, k39 v = some v) (hk2 : k64 () = some (I (-1))) : ∀ (fuel i : Nat), 51 < i + fuel → i ≤ 51 → LX2_yearsUntilVoid_22 k39 k64 o 0 t fuel (I (snc S g i)) (I (i : Int)) = some (I (frs (fun n => decide (S 241 < snc S g n)) (51 - i) i)) := by
  have hsn := snc_rg hB hG
  have hs := hC.2.2.2.2.2.2.1
  have t3 : rd o 5 t 3 = I (S (38 * (g : Int) + 3)) := hT.2.2.2.1
  have hcr := creepOf_e hC hB hT hG
  obtain ⟨a1, a2, a3, a4, -⟩ := id hG
  have h6 := hB.2.2.2.2.1 6 (by omega) (by omega)
  rw [if_neg (by omega), if_neg (by omega)] at h6
  have h6' : 0 ≤ S 241 ∧ S 241 ≤ 100 := h6
  intro fuel
  induction fuel with
  | zero => intro i h1 h2; omega
  | succ fuel ih =>
    intro i h1 h2
    have hsi := hsn i
    rw [LX2_yearsUntilVoid_22.eq_2]
    by_cases hi : (50 : Int) < (i : Int)
    · rw [show 51 - i = 0 from by omega]
      simp (disch := omega) only [↓bd_e, bq_e, bn_e, grd_e, I_add, I_sub, I_mul, I_neg, isZ0, isZ1, isZ_tf, tf_z, tf_le, I_lit, I_inB, I_tcN, I_lt, I_le, I_eq, ↓reduceIte, not_true_eq_false, not_false_eq_true, nz, hi, hk2]
      rfl
    · obtain ⟨q, hq⟩ : ∃ q, 51 - i = q + 1 := ⟨50 - i, by omega⟩
      rw [hq]
      unfold frs
      by_cases hc : S 241 < snc S g i
      · have c : (snc S g i ≤ S 241) = False := eq_false (by omega)
        rw [if_pos (decide_eq_true hc)]
        simp (disch := omega) only [↓bd_e, bq_e, bn_e, grd_e, I_add, I_sub, I_mul, I_neg, isZ0, isZ1, isZ_tf, tf_z, tf_le, I_lit, I_inB, I_tcN, I_lt, I_le, I_eq, ↓reduceIte, not_true_eq_false, not_false_eq_true, nz, hs, hi, Int.reduceAdd, c, hk]
      · have c : (snc S g i ≤ S 241) = True := eq_true (by omega)
        have hrec := ih (i + 1) (by omega) (by omega)
        rw [if_neg (by simpa using hc), ← show 51 - (i + 1) = q from by omega, ← hrec]
        simp (disch := omega) only [↓bd_e, bq_e, bn_e, grd_e, I_add, I_sub, I_mul, I_neg, isZ0, isZ1, isZ_tf, tf_z, tf_le, I_lit, I_inB, I_tcN, I_lt, I_le, I_eq, ↓reduceIte, not_true_eq_false, not_false_eq_true, nz, hs, hi, Int.reduceAdd, c, hcr, t3, creepOfYear_e]
        rfl
theorem cyears_e (hC : CS o 0 S) (hB : SB S Y) (hY : Y ≤ 1000000) (hT : TC (fun k => o.1 k t) S g) (hG : GB S g Y) : F_X2_yearsUntilVoid o 0 t = some (I (vdf S g)) := by
  have t4 : rd o 5 t 4 = I (S (38 * (g : Int) + 4)) := hT.2.2.2.2.1
  have t5 : rd o 5 t 5 = I (S (38 * (g : Int) + 5)) := hT.2.2.2.2.2.1
  have t6 : rd o 5 t 6 = I (S (38 * (g : Int) + 6)) := hT.2.2.2.2.2.2.1
  have a6 := hG.2.2.2.2.2.1
  unfold F_X2_yearsUntilVoid vdf
  by_cases c : S (38 * (g : Int) + 5) = -1
  · simp (disch := omega) only [↓bd_e, bq_e, bn_e, grd_e, I_add, I_sub, I_mul, I_neg, isZ0, isZ1, isZ_tf, tf_z, tf_le, I_lit, I_inB, I_tcN, I_lt, I_le, I_eq, ↓reduceIte, not_true_eq_false, not_false_eq_true, nz, t5, c]
  · simp (disch := omega) only [↓bd_e, bq_e, bn_e, grd_e, I_add, I_sub, I_mul, I_neg, isZ0, isZ1, isZ_tf, tf_z, tf_le, I_lit, I_inB, I_tcN, I_lt, I_le, I_eq, ↓reduceIte, not_true_eq_false, not_false_eq_true, nz, t4, t5, t6, c]
    exact cvoid_loop hC hB hY hT hG (fun v => some v) (fun _ => some (I (-1))) (fun _ => rfl) rfl FU 0 (by unfold FU; omega) (by omega)
theorem allPoints_loop (hC : CS o 0 S) (hB : SB S Y) (kk : Int32 → Option Int32) : ∀ (fuel i : Nat), gm S < i + fuel → i ≤ gm S → LX2_allPoints_4 kk o 0 fuel (I (sm (fun g => (gn S g : Int)) i)) (I (i : Int)) = kk (I (sm (fun g => (gn S g : Int)) (gm S))) := by
  have hm := hB.m
  have s2 := hC.2.2.1
  rw [hm.1] at s2
  intro fuel
  induction fuel with
  | zero => intro i h1 h2; omega
  | succ fuel ih =>
    intro i h1 h2
    rw [LX2_allPoints_4.eq_2]
    by_cases hi : (gm S : Int) ≤ (i : Int)
    · have : i = gm S := by omega
      rw [← this]
      rw [← this] at hi s2
      simp (disch := omega) only [↓bd_e, bq_e, bn_e, grd_e, I_add, I_sub, I_mul, I_neg, isZ0, isZ1, isZ_tf, tf_z, tf_le, I_lit, I_inB, I_tcN, I_lt, I_le, I_eq, ↓reduceIte, not_true_eq_false, not_false_eq_true, nz, s2, hi]
    · have hn := (hC.2.2.2.2.2.2.2 i (by omega)).n
      simp (disch := omega) only [↓bd_e, bq_e, bn_e, grd_e, I_add, I_sub, I_mul, I_neg, isZ0, isZ1, isZ_tf, tf_z, tf_le, I_lit, I_inB, I_tcN, I_lt, I_le, I_eq, ↓reduceIte, not_true_eq_false, not_false_eq_true, nz, s2, hi, hn]
      exact ih (i + 1) (by omega) (by omega)
theorem allPoints_e (hC : CS o 0 S) (hB : SB S Y) : F_X2_allPoints o 0 = some (I (sof S 2)) := by
  have hm := hB.m
  unfold F_X2_allPoints
  simp only [↓bd_e, bq_e, bn_e, grd_e, I_add, I_sub, I_mul, I_neg, isZ0, isZ1, isZ_tf, tf_z, tf_le, I_lit, I_inB, I_tcN, I_lt, I_le, I_eq, ↓reduceIte, not_true_eq_false, not_false_eq_true, nz]
  exact allPoints_loop hC hB (fun v => some v) FU 0 (by unfold FU; omega) (by omega)
theorem allCrept_loop (hC : CS o 0 S) (hB : SB S Y) (kk : Int32 → Option Int32) : ∀ (fuel i : Nat), gm S < i + fuel → i ≤ gm S → LX2_allCrept_4 kk o 0 fuel (I (sm (fun g => S (38 * (g : Int) + 4)) i)) (I (i : Int)) = kk (I (sm (fun g => S (38 * (g : Int) + 4)) (gm S))) := by
  have hm := hB.m
  have s2 := hC.2.2.1
  rw [hm.1] at s2
  intro fuel
  induction fuel with
  | zero => intro i h1 h2; omega
  | succ fuel ih =>
    intro i h1 h2
    rw [LX2_allCrept_4.eq_2]
    by_cases hi : (gm S : Int) ≤ (i : Int)
    · have : i = gm S := by omega
      rw [← this]
      rw [← this] at hi s2
      simp (disch := omega) only [↓bd_e, bq_e, bn_e, grd_e, I_add, I_sub, I_mul, I_neg, isZ0, isZ1, isZ_tf, tf_z, tf_le, I_lit, I_inB, I_tcN, I_lt, I_le, I_eq, ↓reduceIte, not_true_eq_false, not_false_eq_true, nz, s2, hi]
    · have hn : rd o 5 (tid 0 (rd o 4 0 i)) 4 = I (S (38 * (i : Int) + 4)) := (hC.2.2.2.2.2.2.2 i (by omega)).2.2.2.2.1
      simp (disch := omega) only [↓bd_e, bq_e, bn_e, grd_e, I_add, I_sub, I_mul, I_neg, isZ0, isZ1, isZ_tf, tf_z, tf_le, I_lit, I_inB, I_tcN, I_lt, I_le, I_eq, ↓reduceIte, not_true_eq_false, not_false_eq_true, nz, s2, hi, hn]
      exact ih (i + 1) (by omega) (by omega)
theorem allCrept_e (hC : CS o 0 S) (hB : SB S Y) : F_X2_allCrept o 0 = some (I (sof S 5)) := by
  have hm := hB.m
  unfold F_X2_allCrept
  simp only [↓bd_e, bq_e, bn_e, grd_e, I_add, I_sub, I_mul, I_neg, isZ0, isZ1, isZ_tf, tf_z, tf_le, I_lit, I_inB, I_tcN, I_lt, I_le, I_eq, ↓reduceIte, not_true_eq_false, not_false_eq_true, nz]
  exact allCrept_loop hC hB (fun v => some v) FU 0 (by unfold FU; omega) (by omega)
theorem validPapers_loop (hC : CS o 0 S) (hB : SB S Y) (hY : Y ≤ 1000000) (kk : Int32 → Option Int32) : ∀ (fuel i : Nat), gm S < i + fuel → i ≤ gm S → LX2_validPapers_4 kk o 0 fuel (I (sm (fun g => val S g) i)) (I (i : Int)) = kk (I (sm (fun g => val S g) (gm S))) := by
  have hm := hB.m
  have s2 := hC.2.2.1
  rw [hm.1] at s2
  intro fuel
  induction fuel with
  | zero => intro i h1 h2; omega
  | succ fuel ih =>
    intro i h1 h2
    rw [LX2_validPapers_4.eq_2]
    by_cases hi : (gm S : Int) ≤ (i : Int)
    · have : i = gm S := by omega
      rw [← this]
      rw [← this] at hi s2
      simp (disch := omega) only [↓bd_e, bq_e, bn_e, grd_e, I_add, I_sub, I_mul, I_neg, isZ0, isZ1, isZ_tf, tf_z, tf_le, I_lit, I_inB, I_tcN, I_lt, I_le, I_eq, ↓reduceIte, not_true_eq_false, not_false_eq_true, nz, s2, hi]
    · have hv := isValid_e hC hB hY (hC.2.2.2.2.2.2.2 i (by omega)) (hB.g (g := i) (by omega))
      have hrec := ih (i + 1) (by omega) (by omega)
      have e2 : sm (fun g => val S g) (i + 1) = sm (fun g => val S g) i + val S i := rfl
      rw [e2] at hrec
      rcases val_01 S i with v | v
      · rw [v] at hrec hv
        simp (disch := omega) only [↓bd_e, bq_e, bn_e, grd_e, I_add, I_sub, I_mul, I_neg, isZ0, isZ1, isZ_tf, tf_z, tf_le, I_lit, I_inB, I_tcN, I_lt, I_le, I_eq, ↓reduceIte, not_true_eq_false, not_false_eq_true, nz, s2, hi, hv]
        exact hrec
      · rw [v] at hrec hv
        simp (disch := omega) only [↓bd_e, bq_e, bn_e, grd_e, I_add, I_sub, I_mul, I_neg, isZ0, isZ1, isZ_tf, tf_z, tf_le, I_lit, I_inB, I_tcN, I_lt, I_le, I_eq, ↓reduceIte, not_true_eq_false, not_false_eq_true, nz, s2, hi, hv, Int.reduceEq]
        exact hrec
theorem validPapers_e (hC : CS o 0 S) (hB : SB S Y) (hY : Y ≤ 1000000) : F_X2_validPapers o 0 = some (I (sof S 3)) := by
  have hm := hB.m
  unfold F_X2_validPapers
  simp only [↓bd_e, bq_e, bn_e, grd_e, I_add, I_sub, I_mul, I_neg, isZ0, isZ1, isZ_tf, tf_z, tf_le, I_lit, I_inB, I_tcN, I_lt, I_le, I_eq, ↓reduceIte, not_true_eq_false, not_false_eq_true, nz]
  exact validPapers_loop hC hB hY (fun v => some v) FU 0 (by unfold FU; omega) (by omega)
end
