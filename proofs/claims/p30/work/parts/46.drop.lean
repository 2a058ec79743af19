/-! a point less -/
def cutf (q : Nat) (f : Nat → Int) : Nat → Int := fun k => if k < q then f k else f (k + 1)
section
variable {r d y : Nat → Int} {n : Nat} {t : Nat}
theorem cut_Ds {q : Nat} {f : Nat → Int} (h : Ds f n) (hq : q < n) : Ds (cutf q f) (n - 1) := by
  intro i j hi hj e
  unfold cutf at e
  split at e <;> split at e
  · exact h i j (by omega) (by omega) e
  · have := h i (j + 1) (by omega) (by omega) e; omega
  · have := h (i + 1) j (by omega) (by omega) e; omega
  · have := h (i + 1) (j + 1) (by omega) (by omega) e; omega
theorem cut_PB {q : Nat} (h : PB n r d y) (hq : q < n) : PB (n - 1) (cutf q r) (cutf q d) (cutf q y) := by
  obtain ⟨h1, h2, h3, h4, h5⟩ := h
  refine ⟨by omega, cut_Ds h2 hq, cut_Ds h3 hq, ?_, ?_⟩
  · intro i j hi hj
    unfold cutf
    split <;> split <;> exact h4 _ _ (by omega) (by omega)
  · intro k hk
    unfold cutf
    split
    · exact h5 k (by omega)
    · exact h5 (k + 1) (by omega)
theorem drop_loop (hB : PB n r d y) {q : Nat} (hq : q < n) (kk : OM → Option (Int32 × OM)) : ∀ (fuel i : Nat) (o : OM), n < i + fuel → i ≤ n → rd o 6 t 0 = I ((if i ≤ q then i else i - 1 : Nat) : Int) → PA (fun k => o.1 k t) (if i ≤ q then i else i - 1) (cutf q r) (cutf q d) (cutf q y) → (∀ k, i ≤ k → k < n → rd o 7 t k = I (r k) ∧ rd o 8 t k = I (d k) ∧ rd o 9 t k = I (y k)) →
    ∃ o1, LX1_dropDegree_28 kk (I ((n : Int) - 1)) (I (q : Int)) t fuel o (I (i : Int)) = kk o1 ∧ Fp o o1 t ∧ rd o1 6 t 0 = I ((n - 1 : Nat) : Int) ∧ PA (fun k => o1.1 k t) (n - 1) (cutf q r) (cutf q d) (cutf q y) := by
  have hn10 := hB.1
  intro fuel
  induction fuel with
  | zero => intro i o h1; omega
  | succ fuel ih =>
    intro i o h1 h2 h3 h4 h5
    rw [LX1_dropDegree_28.eq_2]
    by_cases hi : (n : Int) - 1 < (i : Int)
    · have : i = n := by omega
      rw [if_neg (by omega)] at h3 h4
      rw [this] at h3 h4
      refine ⟨o, ?_, Fp.rf o t, h3, h4⟩
      simp (disch := omega) only [↓bd_e, bq_e, bn_e, grd_e, I_add, I_sub, I_mul, I_neg, isZ0, isZ1, isZ_tf, tf_z, tf_le, I_lit, I_inB, I_tcN, I_lt, I_le, I_eq, ↓reduceIte, not_true_eq_false, not_false_eq_true, nz, hi]
    · by_cases hiq : (i : Int) = (q : Int)
      · have e1 : i = q := by omega
        subst e1
        rw [if_pos (by omega)] at h3 h4
        obtain ⟨o1, g1, g2, g3, g4⟩ := ih (i + 1) o (by omega) (by omega) (by rw [if_neg (by omega)]; exact h3) (by rw [if_neg (by omega)]; exact h4) (fun k a b => h5 k (by omega) b)
        refine ⟨o1, ?_, g2, g3, g4⟩
        simp (disch := omega) only [↓bd_e, bq_e, bn_e, grd_e, I_add, I_sub, I_mul, I_neg, isZ0, isZ1, isZ_tf, tf_z, tf_le, I_lit, I_inB, I_tcN, I_lt, I_le, I_eq, ↓reduceIte, not_true_eq_false, not_false_eq_true, nz, hi]
        exact g1
      · obtain ⟨a7, a8, a9⟩ := h5 i (Nat.le_refl i) (by omega)
        obtain ⟨s, hs⟩ : ∃ s, s = (if i ≤ q then i else i - 1 : Nat) := ⟨_, rfl⟩
        rw [← hs] at h3 h4
        have hsr : cutf q r s = r i ∧ cutf q d s = d i ∧ cutf q y s = y i := by
          unfold cutf
          by_cases hle : i ≤ q
          · rw [if_pos hle] at hs
            rw [hs, if_pos (by omega), if_pos (by omega), if_pos (by omega)]
            exact ⟨rfl, rfl, rfl⟩
          · rw [if_neg hle] at hs
            rw [if_neg (by omega), if_neg (by omega), if_neg (by omega), show s + 1 = i from by omega]
            exact ⟨rfl, rfl, rfl⟩
        have hsi : s ≤ i ∧ s + 1 ≤ n - 1 := by
          by_cases hle : i ≤ q
          · rw [if_pos hle] at hs; omega
          · rw [if_neg hle] at hs; omega
        have hcut := cut_PB hB hq
        obtain ⟨o2, b1, b2, b3, b4, b5⟩ := addLast_e (o := o) (t := t) (r := cutf q r) (d := cutf q d) (y := cutf q y) h3 h4 (hcut.2.1.le (by omega)) (by omega) (fun k hk => (hcut.2.2.2.2 k (by omega)).1)
        rw [hsr.1, hsr.2.1, hsr.2.2] at b1
        have hs1 : (if i + 1 ≤ q then i + 1 else i + 1 - 1 : Nat) = s + 1 := by
          by_cases hle : i ≤ q
          · rw [if_pos hle] at hs
            rw [if_pos (by omega)]; omega
          · rw [if_neg hle] at hs
            rw [if_neg (by omega)]; omega
        obtain ⟨o1, g1, g2, g3, g4⟩ := ih (i + 1) o2 (by omega) (by omega) (by rw [hs1]; exact b3) (by rw [hs1]; exact b4) (fun k a b => by
          rw [b5 7 k (by omega) (by omega) (by omega), b5 8 k (by omega) (by omega) (by omega), b5 9 k (by omega) (by omega) (by omega)]
          exact h5 k (by omega) b)
        refine ⟨o1, ?_, b2.tr g2, g3, g4⟩
        simp (disch := omega) only [↓bd_e, bq_e, bn_e, grd_e, I_add, I_sub, I_mul, I_neg, isZ0, isZ1, isZ_tf, tf_z, tf_le, I_lit, I_inB, I_tcN, I_lt, I_le, I_eq, ↓reduceIte, not_true_eq_false, not_false_eq_true, nz, hi, hiq, a7, a8, a9, b1]
        exact g1
theorem dropDegree_e {o : OM} (hs : rd o 6 t 0 = I (n : Int)) (hA : PA (fun k => o.1 k t) n r d y) (hB : PB n r d y) {z : Int} (hz1 : -400 ≤ z) (hz2 : z ≤ 1500) :
    (ixf d z n = -1 ∧ F_X1_dropDegree o t (I z) = some (I 0, o)) ∨ (∃ q : Nat, q < n ∧ ixf d z n = (q : Int) ∧ d q = z ∧ ∃ o1, F_X1_dropDegree o t (I z) = some (I 1, o1) ∧ Fp o o1 t ∧ rd o1 6 t 0 = I ((n - 1 : Nat) : Int) ∧ PA (fun k => o1.1 k t) (n - 1) (cutf q r) (cutf q d) (cutf q y)) := by
  have hn10 := hB.1
  obtain ⟨f, hf, e⟩ := indexOf_e hs hA hB (z := z) (by omega) (by omega)
  have hfx := IX_u hB.2.2.1 hf (ixf_sp d z n)
  rw [← hfx]
  rcases hf with ⟨rfl, h2⟩ | ⟨q, h1, rfl, h2⟩
  · left
    refine ⟨rfl, ?_⟩
    unfold F_X1_dropDegree
    simp (disch := omega) only [↓bd_e, bq_e, bn_e, grd_e, I_add, I_sub, I_mul, I_neg, isZ0, isZ1, isZ_tf, tf_z, tf_le, I_lit, I_inB, I_tcN, I_lt, I_le, I_eq, ↓reduceIte, not_true_eq_false, not_false_eq_true, nz, e]
  · right
    refine ⟨q, h1, rfl, h2, ?_⟩
    obtain ⟨o1, g1, g2, g3, g4⟩ := drop_loop (t := t) hB h1 (fun (o_4 : OM) => some (I 1, o_4)) FU 0 (wr o 6 t 0 (I 0)) (by unfold FU; omega) (by omega) (by rw [if_pos (by omega), rd_wr]; rfl) (fun k hk => by rw [if_pos (by omega)] at hk; omega) (fun k a b => by
      rw [rd_wk _ _ (by omega), rd_wk _ _ (by omega), rd_wk _ _ (by omega)]
      exact ⟨(hA k b).1, (hA k b).2.1, (hA k b).2.2.1⟩)
    refine ⟨o1, ?_, ((Fp.rf o t).wr (by omega)).tr g2, g3, g4⟩
    have e1 : ((q : Int) = -1) = False := eq_false (by omega)
    unfold F_X1_dropDegree
    simp (disch := omega) only [↓bd_e, bq_e, bn_e, grd_e, I_add, I_sub, I_mul, I_neg, isZ0, isZ1, isZ_tf, tf_z, tf_le, I_lit, I_inB, I_tcN, I_lt, I_le, I_eq, ↓reduceIte, not_true_eq_false, not_false_eq_true, nz, e, e1, hs]
    exact g1
end
