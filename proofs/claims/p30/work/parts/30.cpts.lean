/-! the points of the program: its looks -/
def IX (d : Nat → Int) (n : Nat) (z f : Int) : Prop := (f = -1 ∧ ∀ i, i < n → d i ≠ z) ∨ (∃ k : Nat, k < n ∧ f = (k : Int) ∧ d k = z)
theorem IX_u {d : Nat → Int} {n : Nat} {z f f' : Int} (hd : Ds d n) (h : IX d n z f) (h' : IX d n z f') : f = f' := by
  rcases h with ⟨h1, h2⟩ | ⟨k, h1, h2, h3⟩ <;> rcases h' with ⟨g1, g2⟩ | ⟨k', g1, g2, g3⟩
  · omega
  · exact absurd g3 (h2 k' g1)
  · exact absurd h3 (g2 k h1)
  · have := hd k k' h1 g1 (by omega)
    omega
theorem IX_rg {d : Nat → Int} {n : Nat} {z f : Int} (h : IX d n z f) : -1 ≤ f ∧ f < (n : Int) ∧ (f = -1 ∨ ∃ k : Nat, k < n ∧ f = (k : Int) ∧ d k = z) := by
  rcases h with ⟨h1, h2⟩ | ⟨k, h1, h2, h3⟩
  · exact ⟨by omega, by omega, Or.inl h1⟩
  · exact ⟨by omega, by omega, Or.inr ⟨k, h1, h2, h3⟩⟩
def Crs (r d : Nat → Int) (n : Nat) (x z : Int) : Prop := ∃ i, i < n ∧ d i ≠ z ∧ (r i = x ∨ ¬ (r i < x ↔ d i < z))
section
variable {o : OM} {t n : Nat} {r d y : Nat → Int}
theorem index_loop (hs : rd o 6 t 0 = I (n : Int)) (hn10 : n ≤ 10) (hd : ∀ k, k < n → rd o 8 t k = I (d k)) (hb : ∀ k, k < n → -400 ≤ d k ∧ d k ≤ 1500) (k20 : Int32 → Option Int32) (k28 : Unit → Option Int32) {z : Int} (hz1 : -2000 ≤ z) (hz2 : z ≤ 2000) : ∀ (fuel i : Nat), n < i + fuel → i ≤ n → (∀ j, j < i → d j ≠ z) → ∃ f, IX d n z f ∧ LX1_indexOf_2 k20 k28 o t (I z) fuel (I (i : Int)) = (if f = -1 then k28 () else k20 (I f)) := by
  intro fuel
  induction fuel with
  | zero => intro i h1 h2; omega
  | succ fuel ih =>
    intro i h1 h2 h3
    rw [LX1_indexOf_2.eq_2]
    by_cases hi : (n : Int) ≤ (i : Int)
    · refine ⟨-1, Or.inl ⟨rfl, fun j hj => h3 j (by omega)⟩, ?_⟩
      simp (disch := omega) only [↓bd_e, bq_e, bn_e, grd_e, I_add, I_sub, I_mul, I_neg, isZ0, isZ1, isZ_tf, tf_z, tf_le, I_lit, I_inB, I_tcN, I_lt, I_le, I_eq, ↓reduceIte, not_true_eq_false, not_false_eq_true, nz, hs, hi]
    · have hbi := hb i (by omega)
      by_cases he : d i = z
      · refine ⟨(i : Int), Or.inr ⟨i, by omega, rfl, he⟩, ?_⟩
        rw [if_neg (by omega)]
        simp (disch := omega) only [↓bd_e, bq_e, bn_e, grd_e, I_add, I_sub, I_mul, I_neg, isZ0, isZ1, isZ_tf, tf_z, tf_le, I_lit, I_inB, I_tcN, I_lt, I_le, I_eq, ↓reduceIte, not_true_eq_false, not_false_eq_true, nz, hs, hi, hd, he]
      · obtain ⟨f, hf, e⟩ := ih (i + 1) (by omega) (by omega) (fun j hj => by
          by_cases hji : j = i
          · rw [hji]; exact he
          · exact h3 j (by omega))
        refine ⟨f, hf, ?_⟩
        rw [← e]
        simp (disch := omega) only [↓bd_e, bq_e, bn_e, grd_e, I_add, I_sub, I_mul, I_neg, isZ0, isZ1, isZ_tf, tf_z, tf_le, I_lit, I_inB, I_tcN, I_lt, I_le, I_eq, ↓reduceIte, not_true_eq_false, not_false_eq_true, nz, hs, hi, hd, he]
        rfl
theorem indexOf_e (hs : rd o 6 t 0 = I (n : Int)) (hA : PA (fun k => o.1 k t) n r d y) (hB : PB n r d y) {z : Int} (hz1 : -2000 ≤ z) (hz2 : z ≤ 2000) : ∃ f, IX d n z f ∧ F_X1_indexOf o t (I z) = some (I f) := by
  obtain ⟨f, hf, e⟩ := index_loop hs hB.1 (fun k hk => (hA k hk).2.1) (fun k hk => (hB.2.2.2.2 k hk).2.1) (fun v => some v) (fun _ => some (I (-1))) hz1 hz2 FU 0 (by have := hB.1; unfold FU; omega) (by omega) (fun j hj => by omega)
  refine ⟨f, hf, ?_⟩
  unfold F_X1_indexOf
  simp only [↓bd_e, bq_e, bn_e, grd_e, I_add, I_sub, I_mul, I_neg, isZ0, isZ1, isZ_tf, tf_z, tf_le, I_lit, I_inB, I_tcN, I_lt, I_le, I_eq, ↓reduceIte, not_true_eq_false, not_false_eq_true, nz]
  refine e.trans ?_
  split
  · rename_i h; rw [h]
  · rfl
theorem crosses_loop (hs : rd o 6 t 0 = I (n : Int)) (hA : PA (fun k => o.1 k t) n r d y) (hB : PB n r d y) (k63 k71 : Unit → Option Int32) {x z : Int} (hx1 : -2000000 ≤ x) (hx2 : x ≤ 2000000) (hz1 : -2000 ≤ z) (hz2 : z ≤ 2000) : ∀ (fuel i : Nat), n < i + fuel → i ≤ n → (∀ j, j < i → ¬ (d j ≠ z ∧ (r j = x ∨ ¬ (r j < x ↔ d j < z)))) → (Crs r d n x z ∧ LX1_crosses_2 k63 k71 o t (I z) (I x) fuel (I (i : Int)) = k63 ()) ∨ (¬ Crs r d n x z ∧ LX1_crosses_2 k63 k71 o t (I z) (I x) fuel (I (i : Int)) = k71 ()) := by
  obtain ⟨hn10, -, -, -, hb⟩ := hB
  have hr : ∀ k, k < n → rd o 7 t k = I (r k) := fun k hk => (hA k hk).1
  have hd : ∀ k, k < n → rd o 8 t k = I (d k) := fun k hk => (hA k hk).2.1
  intro fuel
  induction fuel with
  | zero => intro i h1 h2; omega
  | succ fuel ih =>
    intro i h1 h2 h3
    rw [LX1_crosses_2.eq_2]
    by_cases hi : (n : Int) ≤ (i : Int)
    · right
      refine ⟨fun ⟨j, hj, hz⟩ => h3 j (by omega) hz, ?_⟩
      simp (disch := omega) only [↓bd_e, bq_e, bn_e, grd_e, I_add, I_sub, I_mul, I_neg, isZ0, isZ1, isZ_tf, tf_z, tf_le, I_lit, I_inB, I_tcN, I_lt, I_le, I_eq, ↓reduceIte, not_true_eq_false, not_false_eq_true, nz, hs, hi]
    · have hbi := hb i (by omega)
      by_cases hc : d i ≠ z ∧ (r i = x ∨ ¬ (r i < x ↔ d i < z))
      · left
        refine ⟨⟨i, by omega, hc⟩, ?_⟩
        have c1 : (d i = z) = False := eq_false hc.1
        by_cases c2 : r i = x
        · simp (disch := omega) only [↓bd_e, bq_e, bn_e, grd_e, I_add, I_sub, I_mul, I_neg, isZ0, isZ1, isZ_tf, tf_z, tf_le, I_lit, I_inB, I_tcN, I_lt, I_le, I_eq, ↓reduceIte, not_true_eq_false, not_false_eq_true, nz, hs, hi, hr, hd, c1, c2]
        · by_cases c3 : x ≤ r i
          · have c4 : ¬ z ≤ d i := by omega
            simp (disch := omega) only [↓bd_e, bq_e, bn_e, grd_e, I_add, I_sub, I_mul, I_neg, isZ0, isZ1, isZ_tf, tf_z, tf_le, I_lit, I_inB, I_tcN, I_lt, I_le, I_eq, ↓reduceIte, not_true_eq_false, not_false_eq_true, nz, hs, hi, hr, hd, c1, c2, c3, c4, show ((0 : Int) = 1) = False from by simp]
          · have c4 : z ≤ d i := by omega
            simp (disch := omega) only [↓bd_e, bq_e, bn_e, grd_e, I_add, I_sub, I_mul, I_neg, isZ0, isZ1, isZ_tf, tf_z, tf_le, I_lit, I_inB, I_tcN, I_lt, I_le, I_eq, ↓reduceIte, not_true_eq_false, not_false_eq_true, nz, hs, hi, hr, hd, c1, c2, c3, c4, show ((1 : Int) = 0) = False from by simp]
      · have hrec := ih (i + 1) (by omega) (by omega) (fun j hj => by
          by_cases hji : j = i
          · rw [hji]; exact hc
          · exact h3 j (by omega))
        have e : (I ((i : Int) + 1)) = I ((i + 1 : Nat) : Int) := rfl
        by_cases c1 : d i = z
        · simp (disch := omega) only [↓bd_e, bq_e, bn_e, grd_e, I_add, I_sub, I_mul, I_neg, isZ0, isZ1, isZ_tf, tf_z, tf_le, I_lit, I_inB, I_tcN, I_lt, I_le, I_eq, ↓reduceIte, not_true_eq_false, not_false_eq_true, nz, hs, hi, hr, hd, c1]
          rw [e]
          exact hrec
        · have c2 : ¬ r i = x := fun z => hc ⟨c1, Or.inl z⟩
          by_cases c3 : x ≤ r i
          · have c4 : z ≤ d i := by omega
            simp (disch := omega) only [↓bd_e, bq_e, bn_e, grd_e, I_add, I_sub, I_mul, I_neg, isZ0, isZ1, isZ_tf, tf_z, tf_le, I_lit, I_inB, I_tcN, I_lt, I_le, I_eq, ↓reduceIte, not_true_eq_false, not_false_eq_true, nz, hs, hi, hr, hd, c1, c2, c3, c4]
            rw [e]
            exact hrec
          · have c4 : ¬ z ≤ d i := by omega
            simp (disch := omega) only [↓bd_e, bq_e, bn_e, grd_e, I_add, I_sub, I_mul, I_neg, isZ0, isZ1, isZ_tf, tf_z, tf_le, I_lit, I_inB, I_tcN, I_lt, I_le, I_eq, ↓reduceIte, not_true_eq_false, not_false_eq_true, nz, hs, hi, hr, hd, c1, c2, c3, c4]
            rw [e]
            exact hrec
theorem crosses_e (hs : rd o 6 t 0 = I (n : Int)) (hA : PA (fun k => o.1 k t) n r d y) (hB : PB n r d y) {x z : Int} (hx1 : -2000000 ≤ x) (hx2 : x ≤ 2000000) (hz1 : -2000 ≤ z) (hz2 : z ≤ 2000) : (Crs r d n x z ∧ F_X1_crosses o t (I x) (I z) = some (I 1)) ∨ (¬ Crs r d n x z ∧ F_X1_crosses o t (I x) (I z) = some (I 0)) := by
  have := crosses_loop hs hA hB (fun _ => some (I 1)) (fun _ => some (I 0)) hx1 hx2 hz1 hz2 FU 0 (by have := hB.1; unfold FU; omega) (by omega) (fun j hj => by omega)
  unfold F_X1_crosses
  simp only [↓bd_e, bq_e, bn_e, grd_e, I_add, I_sub, I_mul, I_neg, isZ0, isZ1, isZ_tf, tf_z, tf_le, I_lit, I_inB, I_tcN, I_lt, I_le, I_eq, ↓reduceIte, not_true_eq_false, not_false_eq_true, nz]
  exact this
theorem depth_loop (hs : rd o 6 t 0 = I (n : Int)) (hA : PA (fun k => o.1 k t) n r d y) (hn10 : n ≤ 10) (kk : Int32 → Option Int32) : ∀ (fuel i : Nat), n < i + fuel → i ≤ n → LX1_treeDepth_4 kk o t fuel (I (mx (fun k => (dep r k : Int)) i)) (I (i : Int)) = kk (I (mx (fun k => (dep r k : Int)) n)) := by
  have hd : ∀ k, k < n → rd o 12 t k = I (dep r k : Int) := fun k hk => (hA k hk).2.2.2.2.2.1
  intro fuel
  induction fuel with
  | zero => intro i h1 h2; omega
  | succ fuel ih =>
    intro i h1 h2
    rw [LX1_treeDepth_4.eq_2]
    have hm := mx_rg (f := fun k => (dep r k : Int)) (n := i) (M := 11) (by omega) (fun k hk => by have := dep_le (r := r) (k := k); omega)
    by_cases hi : (n : Int) ≤ (i : Int)
    · have : i = n := by omega
      subst this
      simp (disch := omega) only [↓bd_e, bq_e, bn_e, grd_e, I_add, I_sub, I_mul, I_neg, isZ0, isZ1, isZ_tf, tf_z, tf_le, I_lit, I_inB, I_tcN, I_lt, I_le, I_eq, ↓reduceIte, not_true_eq_false, not_false_eq_true, nz, hs, hi]
    · have hb := dep_le (r := r) (k := i)
      simp (disch := omega) only [↓bd_e, bq_e, bn_e, grd_e, I_add, I_sub, I_mul, I_neg, isZ0, isZ1, isZ_tf, tf_z, tf_le, I_lit, I_inB, I_tcN, I_lt, I_le, I_eq, ↓reduceIte, not_true_eq_false, not_false_eq_true, nz, hs, hi, hd, max_e]
      exact ih (i + 1) (by omega) (by omega)
theorem treeDepth_e (hs : rd o 6 t 0 = I (n : Int)) (hA : PA (fun k => o.1 k t) n r d y) (hn10 : n ≤ 10) : F_X1_treeDepth o t = some (I (mx (fun k => (dep r k : Int)) n)) := by
  unfold F_X1_treeDepth
  simp only [↓bd_e, bq_e, bn_e, grd_e, I_add, I_sub, I_mul, I_neg, isZ0, isZ1, isZ_tf, tf_z, tf_le, I_lit, I_inB, I_tcN, I_lt, I_le, I_eq, ↓reduceIte, not_true_eq_false, not_false_eq_true, nz]
  exact depth_loop hs hA hn10 (fun v => some v) FU 0 (by unfold FU; omega) (by omega)
theorem gap_rg (hB : PB n r d y) (hs : Sj r n) {p : Nat} (hp : p < n) : -2000 ≤ gap r d n p ∧ gap r d n p ≤ 2000 := by
  unfold gap
  split
  · omega
  · have h1 := oi_sp hs hp
    have h2 := oi_sp hs (p := p - 1) (by omega)
    have h3 := (hB.2.2.2.2 _ h1.1).2.1
    have h4 := (hB.2.2.2.2 _ h2.1).2.1
    omega
theorem gap_loop (hs : rd o 6 t 0 = I (n : Int)) (hA : PA (fun k => o.1 k t) n r d y) (hB : PB n r d y) (kk : Int32 → Option Int32) : ∀ (fuel i : Nat), 1 ≤ i → 1 ≤ fuel → n < i + fuel → (i ≤ n ∨ i = 1) → LX1_widestGap_4 kk o t fuel (I (mx (gap r d n) i)) (I (i : Int)) = kk (I (mx (gap r d n) (max n 1))) := by
  have hd : ∀ k, k < n → rd o 8 t k = I (d k) := fun k hk => (hA k hk).2.1
  have ho : ∀ k, k < n → rd o 13 t k = I (oi r n k : Int) := fun k hk => hA.oi hB.2.1 hk
  have hsj := hA.sj
  have hn10 := hB.1
  intro fuel
  induction fuel with
  | zero => intro i h0 hf h1 h2; omega
  | succ fuel ih =>
    intro i h0 hf h1 h2
    rw [LX1_widestGap_4.eq_2]
    by_cases hi : (n : Int) ≤ (i : Int)
    · have : i = max n 1 := by omega
      rw [← this]
      simp (disch := omega) only [↓bd_e, bq_e, bn_e, grd_e, I_add, I_sub, I_mul, I_neg, isZ0, isZ1, isZ_tf, tf_z, tf_le, I_lit, I_inB, I_tcN, I_lt, I_le, I_eq, ↓reduceIte, not_true_eq_false, not_false_eq_true, nz, hs, hi]
    · have hm := mx_rg (f := gap r d n) (n := i) (M := 2000) (by omega) (fun k hk => (gap_rg hB hsj (by omega)).2)
      have g1 := oi_sp hsj (p := i) (by omega)
      have g2 := oi_sp hsj (p := i - 1) (by omega)
      have g3 := (hB.2.2.2.2 _ g1.1).2.1
      have g4 := (hB.2.2.2.2 _ g2.1).2.1
      have e : I ((i : Int) - 1) = I ((i - 1 : Nat) : Int) := by congr 1; omega
      simp (disch := omega) only [↓bd_e, bq_e, bn_e, grd_e, I_add, I_sub, I_mul, I_neg, isZ0, isZ1, isZ_tf, tf_z, tf_le, I_lit, I_inB, I_tcN, I_lt, I_le, I_eq, ↓reduceIte, not_true_eq_false, not_false_eq_true, nz, hs, hi, e, ho, hd, max_e]
      have e2 : max (mx (gap r d n) i) (d (oi r n i) - d (oi r n (i - 1))) = mx (gap r d n) (i + 1) := by
        show _ = max (mx (gap r d n) i) (gap r d n i)
        unfold gap
        rw [if_neg (show ¬ i = 0 by omega)]
      rw [e2]
      exact ih (i + 1) (by omega) (by omega) (by omega) (by omega)
theorem widestGap_e (hs : rd o 6 t 0 = I (n : Int)) (hA : PA (fun k => o.1 k t) n r d y) (hB : PB n r d y) : F_X1_widestGap o t = some (I (mx (gap r d n) (max n 1))) := by
  unfold F_X1_widestGap
  simp only [↓bd_e, bq_e, bn_e, grd_e, I_add, I_sub, I_mul, I_neg, isZ0, isZ1, isZ_tf, tf_z, tf_le, I_lit, I_inB, I_tcN, I_lt, I_le, I_eq, ↓reduceIte, not_true_eq_false, not_false_eq_true, nz]
  exact gap_loop hs hA hB (fun v => some v) FU 1 (by omega) (by unfold FU; omega) (by have := hB.1; unfold FU; omega) (by omega)
theorem onLine_e (hA : PA (fun k => o.1 k t) n r d y) (hB : PB n r d y) {a b : Nat} {x : Int} (ha : a < n) (hb : b < n) (hab : r a < r b) (hx1 : -200000 ≤ x) (hx2 : x ≤ 200000) : F_X1_onLine o t (I (a : Int)) (I (b : Int)) (I x) = some (I (lin r d x a b)) := by
  have hn10 := hB.1
  have hr : ∀ k, k < n → rd o 7 t k = I (r k) := fun k hk => (hA k hk).1
  have hd : ∀ k, k < n → rd o 8 t k = I (d k) := fun k hk => (hA k hk).2.1
  have h1 := hB.2.2.2.2 a ha
  have h2 := hB.2.2.2.2 b hb
  have h3 := (lin_rg hB hx1 hx2 ha hb hab).1
  have e1 : ((a : Int) = -1) = False := by apply eq_false; omega
  have e2 : ((b : Int) = -1) = False := by apply eq_false; omega
  have e3 : (0 < r b - r a) = True := by apply eq_true; omega
  unfold F_X1_onLine
  simp (disch := omega) only [↓bd_e, bq_e, bn_e, grd_e, I_add, I_sub, I_mul, I_neg, isZ0, isZ1, isZ_tf, tf_z, tf_le, I_lit, I_inB, I_tcN, I_lt, I_le, I_eq, ↓reduceIte, not_true_eq_false, not_false_eq_true, nz, hr, hd, e1, e2, e3, floorDiv_e]
  rfl
theorem correctByTree_e (hs : rd o 6 t 0 = I (n : Int)) (hA : PA (fun k => o.1 k t) n r d y) (hB : PB n r d y) (h2 : 2 ≤ n) {x : Int} (hx1 : -200000 ≤ x) (hx2 : x ≤ 200000) : ∃ v, Cor r d n x v ∧ F_X1_correctByTree o t (I x) = some (I v) := by
  obtain ⟨f, hf, ef⟩ := lastUpTo_e hs hA hB (x := x) (by omega) (by omega)
  obtain ⟨g, hg, eg⟩ := firstAbove_e hs hA hB (x := x) (by omega) (by omega)
  have hn10 := hB.1
  have hds := hB.2.1
  have hr : ∀ k, k < n → rd o 7 t k = I (r k) := fun k hk => (hA k hk).1
  have hne : ∀ i j, i < n → j < n → i ≠ j → r i ≠ r j := fun i j hi hj hij e => hij (hds i j hi hj e)
  unfold F_X1_correctByTree
  rcases hf with ⟨rfl, f2⟩ | ⟨a, f1, rfl, f2, f3⟩
  · rcases hg with ⟨rfl, g2⟩ | ⟨b, g1, rfl, g2, g3⟩
    · have := f2 0 (by omega)
      have := g2 0 (by omega)
      omega
    · have hbb := (hB.2.2.2.2 b g1).1
      obtain ⟨c, hc, ec⟩ := firstAbove_e hs hA hB (x := r b) (by omega) (by omega)
      have hcs : ∃ k : Nat, k < n ∧ c = (k : Int) ∧ r b < r k ∧ ∀ i, i < n → r b < r i → r k ≤ r i := by
        rcases hc with ⟨-, c2⟩ | hc
        · exfalso
          by_cases hb0 : b = 0
          · have z1 := c2 1 (by omega)
            have z2 := g3 1 (by omega) (f2 1 (by omega))
            exact hne 1 b (by omega) g1 (by omega) (by omega)
          · have z1 := c2 0 (by omega)
            have z2 := g3 0 (by omega) (f2 0 (by omega))
            exact hne 0 b (by omega) g1 (by omega) (by omega)
        · exact hc
      obtain ⟨k, k1, rfl, k2, k3⟩ := hcs
      have hl := onLine_e hA hB g1 k1 k2 hx1 hx2
      have hP : Pair r n x b k := by
        refine ⟨g1, k1, k2, fun i hi hz => ?_, Or.inr (fun i hi => g3 i hi (f2 i hi)), Or.inl (by omega)⟩
        have := k3 i hi hz.1
        omega
      refine ⟨_, ⟨b, k, hP, rfl⟩, ?_⟩
      have e1 : ((b : Int) = -1) = False := by apply eq_false; omega
      simp (disch := omega) only [↓bd_e, bq_e, bn_e, grd_e, I_add, I_sub, I_mul, I_neg, isZ0, isZ1, isZ_tf, tf_z, tf_le, I_lit, I_inB, I_tcN, I_lt, I_le, I_eq, ↓reduceIte, not_true_eq_false, not_false_eq_true, nz, ef, eg, e1, hr, ec, hl]
  · rcases hg with ⟨rfl, g2⟩ | ⟨b, g1, rfl, g2, g3⟩
    · have hbb := (hB.2.2.2.2 a f1).1
      obtain ⟨c, hc, ec⟩ := lastUpTo_e hs hA hB (x := r a - 1) (by omega) (by omega)
      have hcs : ∃ k : Nat, k < n ∧ c = (k : Int) ∧ r k ≤ r a - 1 ∧ ∀ i, i < n → r i ≤ r a - 1 → r i ≤ r k := by
        rcases hc with ⟨-, c2⟩ | hc
        · exfalso
          by_cases hb0 : a = 0
          · have z1 := c2 1 (by omega)
            have z2 := f3 1 (by omega) (g2 1 (by omega))
            exact hne 1 a (by omega) f1 (by omega) (by omega)
          · have z1 := c2 0 (by omega)
            have z2 := f3 0 (by omega) (g2 0 (by omega))
            exact hne 0 a (by omega) f1 (by omega) (by omega)
        · exact hc
      obtain ⟨k, k1, rfl, k2, k3⟩ := hcs
      have hl := onLine_e hA hB k1 f1 (by omega) hx1 hx2
      have hP : Pair r n x k a := by
        refine ⟨k1, f1, by omega, fun i hi hz => ?_, Or.inl (by omega), Or.inr (fun i hi => f3 i hi (g2 i hi))⟩
        have := k3 i hi (by omega)
        omega
      refine ⟨_, ⟨k, a, hP, rfl⟩, ?_⟩
      have e1 : ((a : Int) = -1) = False := by apply eq_false; omega
      simp (disch := omega) only [↓bd_e, bq_e, bn_e, grd_e, I_add, I_sub, I_mul, I_neg, isZ0, isZ1, isZ_tf, tf_z, tf_le, I_lit, I_inB, I_tcN, I_lt, I_le, I_eq, ↓reduceIte, not_true_eq_false, not_false_eq_true, nz, ef, eg, e1, hr, ec, hl]
    · have hl := onLine_e hA hB f1 g1 (by omega) hx1 hx2
      have hP : Pair r n x a b := by
        refine ⟨f1, g1, by omega, fun i hi hz => ?_, Or.inl f2, Or.inl g2⟩
        by_cases hix : r i ≤ x
        · have := f3 i hi hix; omega
        · have := g3 i hi (by omega); omega
      refine ⟨_, ⟨a, b, hP, rfl⟩, ?_⟩
      have e1 : ((a : Int) = -1) = False := by apply eq_false; omega
      have e2 : ((b : Int) = -1) = False := by apply eq_false; omega
      simp (disch := omega) only [↓bd_e, bq_e, bn_e, grd_e, I_add, I_sub, I_mul, I_neg, isZ0, isZ1, isZ_tf, tf_z, tf_le, I_lit, I_inB, I_tcN, I_lt, I_le, I_eq, ↓reduceIte, not_true_eq_false, not_false_eq_true, nz, ef, eg, e1, e2, hl]
theorem order_loop (hs : rd o 6 t 0 = I (n : Int)) (hA : PA (fun k => o.1 k t) n r d y) (hB : PB n r d y) (h2 : 2 ≤ n) {x : Int} (hx1 : -200000 ≤ x) (hx2 : x ≤ 200000) (kk : Int32 → Option Int32) : ∀ (fuel i : Nat), 1 ≤ i → n < i + fuel → i + 1 ≤ n → (i = 1 ∨ r (oi r n (i - 1)) ≤ x) → ∃ p : Nat, 1 ≤ p ∧ p < n ∧ (p = 1 ∨ r (oi r n (p - 1)) ≤ x) ∧ (p + 1 = n ∨ x < r (oi r n p)) ∧ LX1_correctByOrder_12 kk o t (I x) fuel (I (i : Int)) = kk (I (p : Int)) := by
  have hr : ∀ k, k < n → rd o 7 t k = I (r k) := fun k hk => (hA k hk).1
  have ho : ∀ k, k < n → rd o 13 t k = I (oi r n k : Int) := fun k hk => hA.oi hB.2.1 hk
  have hsj := hA.sj
  have hn10 := hB.1
  intro fuel
  induction fuel with
  | zero => intro i h0 h1 h2; omega
  | succ fuel ih =>
    intro i h0 h1 h2 h3
    rw [LX1_correctByOrder_12.eq_2]
    by_cases hi : (n : Int) - 1 ≤ (i : Int)
    · refine ⟨i, h0, by omega, h3, Or.inl (by omega), ?_⟩
      simp (disch := omega) only [↓bd_e, bq_e, bn_e, grd_e, I_add, I_sub, I_mul, I_neg, isZ0, isZ1, isZ_tf, tf_z, tf_le, I_lit, I_inB, I_tcN, I_lt, I_le, I_eq, ↓reduceIte, not_true_eq_false, not_false_eq_true, nz, hs, hi]
    · have g1 := oi_sp hsj (p := i) (by omega)
      have g3 := (hB.2.2.2.2 _ g1.1).1
      by_cases hx : x < r (oi r n i)
      · refine ⟨i, h0, by omega, h3, Or.inr hx, ?_⟩
        simp (disch := omega) only [↓bd_e, bq_e, bn_e, grd_e, I_add, I_sub, I_mul, I_neg, isZ0, isZ1, isZ_tf, tf_z, tf_le, I_lit, I_inB, I_tcN, I_lt, I_le, I_eq, ↓reduceIte, not_true_eq_false, not_false_eq_true, nz, hs, hi, ho, hr, hx]
      · obtain ⟨p, p1, p2, p3, p4, e⟩ := ih (i + 1) (by omega) (by omega) (by omega) (Or.inr (by rw [Nat.add_sub_cancel]; omega))
        refine ⟨p, p1, p2, p3, p4, ?_⟩
        simp (disch := omega) only [↓bd_e, bq_e, bn_e, grd_e, I_add, I_sub, I_mul, I_neg, isZ0, isZ1, isZ_tf, tf_z, tf_le, I_lit, I_inB, I_tcN, I_lt, I_le, I_eq, ↓reduceIte, not_true_eq_false, not_false_eq_true, nz, hs, hi, ho, hr, hx]
        exact e
theorem correctByOrder_e (hs : rd o 6 t 0 = I (n : Int)) (hA : PA (fun k => o.1 k t) n r d y) (hB : PB n r d y) (h2 : 2 ≤ n) {x : Int} (hx1 : -200000 ≤ x) (hx2 : x ≤ 200000) : ∃ v, Cor r d n x v ∧ F_X1_correctByOrder o t (I x) = some (I v) := by
  have hn10 := hB.1
  have hsj := hA.sj
  have ho : ∀ k, k < n → rd o 13 t k = I (oi r n k : Int) := fun k hk => hA.oi hB.2.1 hk
  have e2 : ((2 : Int) ≤ (n : Int)) = True := by apply eq_true; omega
  unfold F_X1_correctByOrder
  simp (disch := omega) only [↓bd_e, bq_e, bn_e, grd_e, I_add, I_sub, I_mul, I_neg, isZ0, isZ1, isZ_tf, tf_z, tf_le, I_lit, I_inB, I_tcN, I_lt, I_le, I_eq, ↓reduceIte, not_true_eq_false, not_false_eq_true, nz, hs, e2]
  obtain ⟨p, p1, p2, p3, p4, e⟩ := order_loop hs hA hB h2 hx1 hx2 _ FU 1 (by omega) (by unfold FU; omega) (by omega) (Or.inl rfl)
  have g1 := oi_sp hsj (p := p) (by omega)
  have g2 := oi_sp hsj (p := p - 1) (by omega)
  have hadj := rank_adj (r := r) (n := n) g2.1 g1.1 (by rw [g1.2, g2.2]; omega)
  have hl := onLine_e hA hB g2.1 g1.1 hadj.1 hx1 hx2
  refine ⟨lin r d x (oi r n (p - 1)) (oi r n p), ⟨_, _, ⟨g2.1, g1.1, hadj.1, hadj.2, ?_, ?_⟩, rfl⟩, ?_⟩
  · rcases p3 with z | z
    · right
      exact rank_low (by rw [g2.2, z])
    · exact Or.inl z
  · rcases p4 with z | z
    · right
      exact rank_top g1.1 (by rw [g1.2, z])
    · exact Or.inl z
  · refine e.trans ?_
    have e1 : I ((p : Int) - 1) = I ((p - 1 : Nat) : Int) := by congr 1; omega
    simp (disch := omega) only [↓bd_e, bq_e, bn_e, grd_e, I_add, I_sub, I_mul, I_neg, isZ0, isZ1, isZ_tf, tf_z, tf_le, I_lit, I_inB, I_tcN, I_lt, I_le, I_eq, ↓reduceIte, not_true_eq_false, not_false_eq_true, nz, e1, ho, hl]
end
