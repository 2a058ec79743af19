/-! a point more: the order; a point less -/
theorem Ds.le {r : Nat → Int} {n m : Nat} (h : Ds r n) (hm : m ≤ n) : Ds r m := fun i j hi hj e => h i j (by omega) (by omega) e
theorem rank_s (r : Nat → Int) (n j : Nat) : rank r (n + 1) j = rank r n j + (if r n < r j then 1 else 0) := by
  show cnt _ n + (if decide (r n < r j) = true then 1 else 0) = _
  by_cases h : r n < r j
  · rw [if_pos h, if_pos (decide_eq_true h)]; rfl
  · rw [if_neg h, if_neg (by simpa using h)]; rfl
theorem rank_c {r r' : Nat → Int} {n j : Nat} (hj : j < n) (h : ∀ i, i < n → r i = r' i) : rank r n j = rank r' n j := by
  unfold rank
  apply cnt_c
  intro i hi
  rw [h i hi, h j hj]
theorem vs_c {r r' : Nat → Int} {x : Int} {k : Nat} (h : ∀ i, i ≤ k → r i = r' i) : vs r x k = vs r' x k := by
  have : Vs r x k ↔ Vs r' x k := by
    constructor
    · intro g i hi; rw [← h i (by omega), ← h k (by omega)]; exact g i hi
    · intro g i hi; rw [h i (by omega), h k (by omega)]; exact g i hi
  by_cases g : Vs r' x k
  · rw [vs_iff.mpr (this.mpr g), vs_iff.mpr g]
  · have h1 : ¬ vs r x k = true := fun z => g (this.mp (vs_iff.mp z))
    have h2 : ¬ vs r' x k = true := fun z => g (vs_iff.mp z)
    rw [Bool.not_eq_true] at h1 h2
    rw [h1, h2]
theorem dep_c {r r' : Nat → Int} {k : Nat} (h : ∀ i, i ≤ k → r i = r' i) : dep r k = dep r' k := by
  unfold dep
  rw [h k (by omega)]
  congr 1
  exact cnt_c (fun i hi => vs_c (fun j hj => h j (by omega)))
theorem PA.c {m : Nat → Nat → Int32} {n : Nat} {r d y r' d' y' : Nat → Int} (h : PA m n r d y) (h1 : ∀ i, i < n → r i = r' i) (h2 : ∀ i, i < n → d i = d' i) (h3 : ∀ i, i < n → y i = y' i) : PA m n r' d' y' := by
  intro k hk
  obtain ⟨a1, a2, a3, a4, a5, a6, j, a7, a8, a9⟩ := h k hk
  refine ⟨by rw [a1, h1 k hk], by rw [a2, h2 k hk], by rw [a3, h3 k hk], by rw [a4, ch_c hk h1], by rw [a5, ch_c hk h1], by rw [a6, dep_c (fun i hi => h1 i (by omega))], j, a7, a8, ?_⟩
  rw [← rank_c a7 h1, a9]
theorem PA.m {m m' : Nat → Nat → Int32} {n : Nat} {r d y : Nat → Int} (h : PA m n r d y) (hm : ∀ k j, 7 ≤ k → k ≤ 13 → j < n → m' k j = m k j) : PA m' n r d y := by
  intro k hk
  have := h k hk
  rw [hm 7 k (by omega) (by omega) hk, hm 8 k (by omega) (by omega) hk, hm 9 k (by omega) (by omega) hk, hm 10 k (by omega) (by omega) hk, hm 11 k (by omega) (by omega) hk, hm 12 k (by omega) (by omega) hk, hm 13 k (by omega) (by omega) hk]
  exact this
section
variable {r d y : Nat → Int} {n : Nat} {t : Nat}
/-- whether the point at a place lies above the new one -/
theorem oi_above (hd : Ds r (n + 1)) (hs : Sj r n) {p : Nat} (hp : p < n) : r n < r (oi r n p) ↔ rank r n n ≤ p := by
  have ho := oi_sp hs hp
  have hne : r (oi r n p) ≠ r n := fun e => by have := hd (oi r n p) n (by omega) (by omega) e; omega
  constructor
  · intro h
    rw [← ho.2]
    apply cnt_mono
    intro i hi hq
    simp at hq ⊢
    omega
  · intro h
    apply Classical.byContradiction
    intro hl
    have : rank r n (oi r n p) < rank r n n := by
      apply rank_mono ho.1
      omega
    omega
theorem order_ins (hd : Ds r (n + 1)) (hs : Sj r n) (hn : n < 10) (hb : ∀ k, k < n + 1 → -100000 ≤ r k ∧ r k ≤ 100000) (kk : OM → Int32 → Option (Unit × OM)) : ∀ (fuel p : Nat) (o : OM), p < fuel → p ≤ n → rank r n n ≤ p → (∀ k, k < n + 1 → rd o 7 t k = I (r k)) → (∀ q, q < p → rd o 13 t q = I (oi r n q : Int)) → (∀ q, p < q → q ≤ n → rd o 13 t q = I (oi r n (q - 1) : Int)) →
    ∃ f : Nat → Int32, (∀ q, q < rank r n n → f q = I (oi r n q : Int)) ∧ (∀ q, rank r n n < q → q ≤ n → f q = I (oi r n (q - 1) : Int)) ∧ LX1_putInOrder_2 kk t (I (n : Int)) fuel o (I (p : Int)) = kk (wrA o 13 t f) (I (rank r n n : Int)) := by
  intro fuel
  induction fuel with
  | zero => intro p o h1; omega
  | succ fuel ih =>
    intro p o h1 h2 h3 hr h4 h5
    have hbn := hb n (by omega)
    by_cases hp0 : p = 0
    · refine ⟨o.1 13 t, fun q hq => by omega, fun q hq hq2 => h5 q (by omega) hq2, ?_⟩
      have e1 : rank r n n = 0 := by omega
      have e2 : wrA o 13 t (o.1 13 t) = o := by
        unfold wrA
        have : (fun a b => if a = 13 ∧ b = t then o.1 13 t else o.1 a b) = o.1 := by
          funext a b
          split
          · rename_i h; rw [h.1, h.2]
          · rfl
        rw [this]
      rw [LX1_putInOrder_2.eq_2, e1, e2]
      subst hp0
      simp (disch := omega) only [↓bd_e, bq_e, bn_e, grd_e, I_add, I_sub, I_mul, I_neg, isZ0, isZ1, isZ_tf, tf_z, tf_le, I_lit, I_inB, I_tcN, I_lt, I_le, I_eq, ↓reduceIte, not_true_eq_false, not_false_eq_true, nz, show (((0 : Nat) : Int) ≤ 0) = True from by simp]
    · have ho := oi_sp hs (p := p - 1) (by omega)
      have hab := oi_above hd hs (p := p - 1) (by omega)
      have hbo := hb (oi r n (p - 1)) (by omega)
      have e1 : I ((p : Int) - 1) = I ((p - 1 : Nat) : Int) := by congr 1; omega
      have e2 : I ((p : Int) + -1) = I ((p - 1 : Nat) : Int) := by congr 1; omega
      have e0 : ((p : Int) ≤ 0) = False := eq_false (by omega)
      have h4p := h4 (p - 1) (by omega)
      have hro := hr (oi r n (p - 1)) (by omega)
      have hrn := hr n (by omega)
      rw [LX1_putInOrder_2.eq_2]
      by_cases hc : rank r n n ≤ p - 1
      · have hlt := hab.mpr hc
        have e3 : (r (oi r n (p - 1)) ≤ r n) = False := eq_false (by omega)
        obtain ⟨f, f1, f2, f3⟩ := ih (p - 1) (wr o 13 t p (I (oi r n (p - 1) : Int))) (by omega) (by omega) hc (fun k hk => by rw [rd_wk _ _ (by omega)]; exact hr k hk) (fun q hq => by rw [rd_wj _ _ (by omega)]; exact h4 q (by omega)) (fun q hq hq2 => by
          by_cases hqp : q = p
          · rw [hqp, rd_wr]
          · rw [rd_wj _ _ hqp]; exact h5 q (by omega) hq2)
        refine ⟨f, f1, f2, ?_⟩
        simp (disch := omega) only [↓bd_e, bq_e, bn_e, grd_e, I_add, I_sub, I_mul, I_neg, isZ0, isZ1, isZ_tf, tf_z, tf_le, I_lit, I_inB, I_tcN, I_lt, I_le, I_eq, ↓reduceIte, not_true_eq_false, not_false_eq_true, nz, e0, e1, e2, h4p, hro, hrn, e3]
        refine f3.trans ?_
        congr 1
        rw [wr_A]
        unfold wrA
        congr 1
        funext a b
        dsimp only
        split <;> rfl
      · have hnl : ¬ r n < r (oi r n (p - 1)) := fun z => hc (hab.mp z)
        have e3 : (r (oi r n (p - 1)) ≤ r n) = True := eq_true (by omega)
        have hpc : rank r n n = p := by omega
        refine ⟨o.1 13 t, fun q hq => h4 q (by omega), fun q hq hq2 => h5 q (by omega) hq2, ?_⟩
        have e4 : wrA o 13 t (o.1 13 t) = o := by
          unfold wrA
          have : (fun a b => if a = 13 ∧ b = t then o.1 13 t else o.1 a b) = o.1 := by
            funext a b
            split
            · rename_i h; rw [h.1, h.2]
            · rfl
          rw [this]
        rw [hpc, e4]
        simp (disch := omega) only [↓bd_e, bq_e, bn_e, grd_e, I_add, I_sub, I_mul, I_neg, isZ0, isZ1, isZ_tf, tf_z, tf_le, I_lit, I_inB, I_tcN, I_lt, I_le, I_eq, ↓reduceIte, not_true_eq_false, not_false_eq_true, nz, e0, e1, h4p, hro, hrn, e3]
theorem putInOrder_e {o : OM} (hd : Ds r (n + 1)) (hs : Sj r n) (hn : n < 10) (hb : ∀ k, k < n + 1 → -100000 ≤ r k ∧ r k ≤ 100000) (hr : ∀ k, k < n + 1 → rd o 7 t k = I (r k)) (ho : ∀ q, q < n → rd o 13 t q = I (oi r n q : Int)) :
    ∃ f : Nat → Int32, F_X1_putInOrder o t (I (n : Int)) = some ((), wrA o 13 t f) ∧ ∀ p, p < n + 1 → ∃ j : Nat, j < n + 1 ∧ f p = I (j : Int) ∧ rank r (n + 1) j = p := by
  have hcn : rank r n n ≤ n := cnt_le _ n
  obtain ⟨f, f1, f2, f3⟩ := order_ins hd hs hn hb (fun (o_2 : OM) (v2_1 : Int32) => grd (inB v2_1 10) (bd (wr o_2 13 t v2_1.toNatClampNeg (I (n : Int))) (fun o_3 : OM => some ((), o_3)))) FU n o (by unfold FU; omega) (Nat.le_refl n) hcn hr ho (fun q h1 h2 => by omega)
  refine ⟨upd f (rank r n n) (I (n : Int)), ?_, ?_⟩
  · unfold F_X1_putInOrder
    rw [bd_e]
    refine f3.trans ?_
    simp (disch := omega) only [↓bd_e, bq_e, bn_e, grd_e, I_add, I_sub, I_mul, I_neg, isZ0, isZ1, isZ_tf, tf_z, tf_le, I_lit, I_inB, I_tcN, I_lt, I_le, I_eq, ↓reduceIte, not_true_eq_false, not_false_eq_true, nz, wr_wA]
  · intro p hp
    unfold upd
    by_cases h1 : p = rank r n n
    · refine ⟨n, by omega, by rw [if_pos h1], ?_⟩
      rw [rank_s, if_neg (by omega), h1]
      rfl
    · rw [if_neg h1]
      by_cases h2 : p < rank r n n
      · have hp2 : p < n := by omega
        have ho := oi_sp hs hp2
        have hab := oi_above hd hs hp2
        refine ⟨oi r n p, by omega, f1 p h2, ?_⟩
        rw [rank_s, if_neg (fun z => by have := hab.mp z; omega), ho.2]
        rfl
      · have hp2 : p - 1 < n := by omega
        have ho := oi_sp hs hp2
        have hab := oi_above hd hs hp2
        refine ⟨oi r n (p - 1), by omega, f2 p (by omega) (by omega), ?_⟩
        rw [rank_s, if_pos (hab.mpr (by omega)), ho.2]
        omega
theorem addLast_e {o : OM} (hs : rd o 6 t 0 = I (n : Int)) (hA : PA (fun k => o.1 k t) n r d y) (hd : Ds r (n + 1)) (hn : n < 10) (hb : ∀ k, k < n + 1 → -100000 ≤ r k ∧ r k ≤ 100000) :
    ∃ o1, F_X1_addLast o t (I (r n)) (I (d n)) (I (y n)) = some ((), o1) ∧ Fp o o1 t ∧ rd o1 6 t 0 = I ((n + 1 : Nat) : Int) ∧ PA (fun k => o1.1 k t) (n + 1) r d y ∧ ∀ k j, 7 ≤ k → k ≤ 9 → n < j → rd o1 k t j = rd o k t j := by
  have h7 : ∀ k, k < n → rd o 7 t k = I (r k) := fun k hk => (hA k hk).1
  have h8 : ∀ k, k < n → rd o 8 t k = I (d k) := fun k hk => (hA k hk).2.1
  have h9 : ∀ k, k < n → rd o 9 t k = I (y k) := fun k hk => (hA k hk).2.2.1
  have h10 : ∀ k, k < n → rd o 10 t k = I (ch true r k n) := fun k hk => (hA k hk).2.2.2.1
  have h11 : ∀ k, k < n → rd o 11 t k = I (ch false r k n) := fun k hk => (hA k hk).2.2.2.2.1
  have h12 : ∀ k, k < n → rd o 12 t k = I (dep r k : Int) := fun k hk => (hA k hk).2.2.2.2.2.1
  have h13 : ∀ k, k < n → rd o 13 t k = I (oi r n k : Int) := fun k hk => hA.oi (hd.le (by omega)) hk
  have hsj := hA.sj
  obtain ⟨o2, e2, fr2, fl2, c2⟩ := hang_e (o := wr (wr (wr o 7 t n (I (r n))) 8 t n (I (d n))) 9 t n (I (y n))) (t := t) hd hn hb (fun k hk => by
    by_cases e : k = n
    · subst e
      simp (disch := omega) only [rd_wr, rd_wj, rd_wk]
    · simp (disch := omega) only [rd_wr, rd_wj, rd_wk]
      exact h7 k (by omega)) (fun k hk => by simp (disch := omega) only [rd_wk]; exact h10 k hk) (fun k hk => by simp (disch := omega) only [rd_wk]; exact h11 k hk) (fun k hk => by simp (disch := omega) only [rd_wk]; exact h12 k hk)
  have k2 : ∀ k j, ¬ (10 ≤ k ∧ k ≤ 12) → rd o2 k t j = rd (wr (wr (wr o 7 t n (I (r n))) 8 t n (I (d n))) 9 t n (I (y n))) k t j := fun k j hk => by
    show o2.1 k t j = _
    rw [fr2 k t (by omega)]
    rfl
  have q7 : ∀ k, k < n + 1 → rd o2 7 t k = I (r k) := fun k hk => by
    rw [k2 7 k (by omega)]
    by_cases e : k = n
    · subst e
      simp (disch := omega) only [rd_wr, rd_wj, rd_wk]
    · simp (disch := omega) only [rd_wr, rd_wj, rd_wk]
      exact h7 k (by omega)
  have q8 : ∀ k, k < n + 1 → rd o2 8 t k = I (d k) := fun k hk => by
    rw [k2 8 k (by omega)]
    by_cases e : k = n
    · subst e
      simp (disch := omega) only [rd_wr, rd_wj, rd_wk]
    · simp (disch := omega) only [rd_wr, rd_wj, rd_wk]
      exact h8 k (by omega)
  have q9 : ∀ k, k < n + 1 → rd o2 9 t k = I (y k) := fun k hk => by
    rw [k2 9 k (by omega)]
    by_cases e : k = n
    · subst e
      simp (disch := omega) only [rd_wr, rd_wj, rd_wk]
    · simp (disch := omega) only [rd_wr, rd_wj, rd_wk]
      exact h9 k (by omega)
  have q6 : rd o2 6 t 0 = I (n : Int) := by
    rw [k2 6 0 (by omega)]
    simp (disch := omega) only [rd_wk]
    exact hs
  obtain ⟨f, e3, c3⟩ := putInOrder_e (o := o2) (t := t) hd hsj hn hb q7 (fun q hq => by
    rw [k2 13 q (by omega)]
    simp (disch := omega) only [rd_wk]
    exact h13 q hq)
  have q6' : rd (wrA o2 13 t f) 6 t 0 = I (n : Int) := by rw [rd_wA _ _ (by omega), q6]
  refine ⟨wr (wrA o2 13 t f) 6 t 0 (I ((n : Int) + 1)), ?_, ⟨fun k i hk => ?_, ?_⟩, by rw [rd_wr]; rfl, ?_, ?_⟩
  · unfold F_X1_addLast
    have e0 : ((n : Int) < 10) = True := eq_true (by omega)
    simp (disch := omega) only [↓bd_e, bq_e, bn_e, grd_e, I_add, I_sub, I_mul, I_neg, isZ0, isZ1, isZ_tf, tf_z, tf_le, I_lit, I_inB, I_tcN, I_lt, I_le, I_eq, ↓reduceIte, not_true_eq_false, not_false_eq_true, nz, hs, e0, rd_wk, e2, q6, e3, q6']
  · rw [wr_ne _ _ (by omega), wrA_ne _ _ (by omega), fr2 k i (by omega), wr_ne _ _ (by omega), wr_ne _ _ (by omega), wr_ne _ _ (by omega)]
  · show o2.2 = o.2
    rw [fl2]
    rfl
  · intro k hk
    have g : ∀ w, w ≠ 6 → w ≠ 13 → rd (wr (wrA o2 13 t f) 6 t 0 (I ((n : Int) + 1))) w t k = rd o2 w t k := fun w h1 h2 => by
      rw [rd_wk _ _ (by omega), rd_wA _ _ (by omega)]
    have g13 : rd (wr (wrA o2 13 t f) 6 t 0 (I ((n : Int) + 1))) 13 t k = f k := by
      rw [rd_wk _ _ (by omega), rd_wAs]
    obtain ⟨a1, a2, a3⟩ := c2 k hk
    exact ⟨(g 7 (by omega) (by omega)).trans (q7 k hk), (g 8 (by omega) (by omega)).trans (q8 k hk), (g 9 (by omega) (by omega)).trans (q9 k hk), (g 10 (by omega) (by omega)).trans a1, (g 11 (by omega) (by omega)).trans a2, (g 12 (by omega) (by omega)).trans a3, by
      obtain ⟨j, j1, j2, j3⟩ := c3 k hk
      exact ⟨j, j1, g13.trans j2, j3⟩⟩
  · intro k j h1 h2 h3
    rw [rd_wk _ _ (by omega), rd_wA _ _ (by omega), k2 k j (by omega)]
    by_cases e7 : k = 7
    · subst e7; simp (disch := omega) only [rd_wj, rd_wk]
    · by_cases e8 : k = 8
      · subst e8; simp (disch := omega) only [rd_wj, rd_wk]
      · have : k = 9 := by omega
        subst this; simp (disch := omega) only [rd_wj, rd_wk]
end
