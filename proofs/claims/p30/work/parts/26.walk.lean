/-! the points of a thermometer of the program, looked at -/
def PA (m : Nat → Nat → Int32) (n : Nat) (r d y : Nat → Int) : Prop :=
  ∀ k, k < n → m 7 k = I (r k) ∧ m 8 k = I (d k) ∧ m 9 k = I (y k) ∧ m 10 k = I (ch true r k n) ∧ m 11 k = I (ch false r k n) ∧ m 12 k = I (dep r k : Int) ∧ ∃ j : Nat, j < n ∧ m 13 k = I (j : Int) ∧ rank r n j = k
def PB (n : Nat) (r d y : Nat → Int) : Prop :=
  n ≤ 10 ∧ Ds r n ∧ Ds d n ∧ (∀ i j, i < n → j < n → (r i < r j ↔ d i < d j)) ∧ ∀ k, k < n → (-100000 ≤ r k ∧ r k ≤ 100000) ∧ (-400 ≤ d k ∧ d k ≤ 1500) ∧ (0 ≤ y k ∧ y k ≤ 1000000)
def LU (r : Nat → Int) (n : Nat) (x : Int) (f : Int) : Prop := (f = -1 ∧ ∀ i, i < n → x < r i) ∨ (∃ k : Nat, k < n ∧ f = (k : Int) ∧ r k ≤ x ∧ ∀ i, i < n → r i ≤ x → r i ≤ r k)
def FA (r : Nat → Int) (n : Nat) (x : Int) (f : Int) : Prop := (f = -1 ∧ ∀ i, i < n → r i ≤ x) ∨ (∃ k : Nat, k < n ∧ f = (k : Int) ∧ x < r k ∧ ∀ i, i < n → x < r i → r k ≤ r i)
theorem not_vs {r : Nat → Int} {x : Int} {j : Nat} (h : ¬ Vs r x j) : ∃ i, i < j ∧ ¬ (r i < r j ↔ r i ≤ x) := by
  apply Classical.byContradiction
  intro hno
  apply h
  intro i hi
  apply Classical.byContradiction
  intro hz
  exact hno ⟨i, hi, hz⟩
theorem LU_ext {r : Nat → Int} {x f : Int} {j : Nat} (h : LU r j x f) (hv : ¬ Vs r x j) : LU r (j + 1) x f := by
  obtain ⟨i, hi, hz⟩ := not_vs hv
  rcases h with ⟨h1, h2⟩ | ⟨k, h1, h2, h3, h4⟩
  · left
    refine ⟨h1, fun a ha => ?_⟩
    by_cases e : a = j
    · subst e
      have := h2 i hi
      omega
    · exact h2 a (by omega)
  · right
    refine ⟨k, by omega, h2, h3, fun a ha hax => ?_⟩
    by_cases e : a = j
    · subst e
      by_cases g : r i ≤ x
      · have := h4 i hi g
        omega
      · omega
    · exact h4 a (by omega) hax
theorem FA_ext {r : Nat → Int} {x f : Int} {j : Nat} (h : FA r j x f) (hv : ¬ Vs r x j) : FA r (j + 1) x f := by
  obtain ⟨i, hi, hz⟩ := not_vs hv
  rcases h with ⟨h1, h2⟩ | ⟨k, h1, h2, h3, h4⟩
  · left
    refine ⟨h1, fun a ha => ?_⟩
    by_cases e : a = j
    · subst e
      have := h2 i hi
      omega
    · exact h2 a (by omega)
  · right
    refine ⟨k, by omega, h2, h3, fun a ha hax => ?_⟩
    by_cases e : a = j
    · subst e
      by_cases g : x < r i
      · have := h4 i hi g
        omega
      · omega
    · exact h4 a (by omega) hax
theorem ext_to {r : Nat → Int} {x : Int} {P : Nat → Prop} (he : ∀ j, P j → ¬ Vs r x j → P (j + 1)) {a b : Nat} (hab : a ≤ b) (h : P a) (hv : ∀ j, a ≤ j → j < b → ¬ Vs r x j) : P b := by
  induction b with
  | zero => have : a = 0 := by omega
            rw [← this]; exact h
  | succ b ih =>
    by_cases e : a = b + 1
    · rw [← e]; exact h
    · exact he b (ih (by omega) (fun j h1 h2 => hv j h1 (by omega))) (hv b (by omega) (by omega))
/-- where the walk stands: at a node, or behind all -/
def At (r : Nat → Int) (n : Nat) (x : Int) (node : Int) (P : Nat → Prop) : Prop := (node = -1 ∧ P n) ∨ (∃ c : Nat, c < n ∧ node = (c : Int) ∧ Vs r x c ∧ P c)
theorem At_step {r : Nat → Int} {n : Nat} {x : Int} {P : Nat → Prop} (hd : Ds r n) (he : ∀ j, P j → ¬ Vs r x j → P (j + 1)) {c : Nat} (hc : c < n) (hv : Vs r x c) (hp : P (c + 1)) : At r n x (ch (decide (x < r c)) r c n) P ∧ (∀ b : Nat, ch (decide (x < r c)) r c n = (b : Int) → c < b) := by
  rcases Classical.em (ch (decide (x < r c)) r c n = -1) with h | h
  · refine ⟨Or.inl ⟨h, ?_⟩, fun b hb => by omega⟩
    exact ext_to he (by omega) hp (fun j h1 h2 => step_none hd hc hv h j (by omega) h2)
  · have hrg := ch_rg (decide (x < r c)) r c n
    obtain ⟨b, hb⟩ : ∃ b : Nat, ch (decide (x < r c)) r c n = (b : Int) := ⟨(ch (decide (x < r c)) r c n).toNat, by omega⟩
    obtain ⟨g1, g2, g3, g4⟩ := step_some hd hc hv hb
    refine ⟨Or.inr ⟨b, g2, hb, g3, ?_⟩, fun b' hb' => by omega⟩
    exact ext_to he (by omega) hp (fun j h1 h2 => g4 j (by omega) h2)
section
variable {o : OM} {t n : Nat} {r d y : Nat → Int}
theorem last_loop (hs : rd o 6 t 0 = I (n : Int)) (hA : PA (fun k => o.1 k t) n r d y) (hB : PB n r d y) (kk : Int32 → Option Int32) {x : Int} (hx1 : -2000000 ≤ x) (hx2 : x ≤ 2000000) : ∀ (fuel : Nat) (found node step : Int), 0 ≤ step → 1 ≤ fuel → (n : Int) < step + fuel → step ≤ 1000 → -1 ≤ found → (∀ c : Nat, node = (c : Int) → step ≤ (c : Int)) → At r n x node (fun b => LU r b x found) → ∃ f, LU r n x f ∧ LX1_lastUpTo_18 kk o t (I x) fuel (I found) (I node) (I step) = kk (I f) := by
  obtain ⟨hn10, hd, -, -, hb⟩ := hB
  have hr : ∀ k, k < n → rd o 7 t k = I (r k) := fun k hk => (hA k hk).1
  have hl : ∀ k, k < n → rd o 10 t k = I (ch true r k n) := fun k hk => (hA k hk).2.2.2.1
  have hri : ∀ k, k < n → rd o 11 t k = I (ch false r k n) := fun k hk => (hA k hk).2.2.2.2.1
  intro fuel
  induction fuel with
  | zero =>
    intro found node step h0 hf0 h1 h2 h3 h4 h5
    omega
  | succ fuel ih =>
    intro found node step h0 hf0 h1 h2 h3 h4 h5
    rw [LX1_lastUpTo_18.eq_2]
    rcases h5 with ⟨hnode, hP⟩ | ⟨c, hc, hnode, hv, hP⟩
    · refine ⟨found, hP, ?_⟩
      subst hnode
      by_cases hst : (n : Int) ≤ step
      · simp (disch := omega) only [↓bd_e, bq_e, bn_e, grd_e, I_add, I_sub, I_mul, I_neg, isZ0, isZ1, isZ_tf, tf_z, tf_le, I_lit, I_inB, I_tcN, I_lt, I_le, I_eq, ↓reduceIte, not_true_eq_false, not_false_eq_true, nz, hs, hst]
      · simp (disch := omega) only [↓bd_e, bq_e, bn_e, grd_e, I_add, I_sub, I_mul, I_neg, isZ0, isZ1, isZ_tf, tf_z, tf_le, I_lit, I_inB, I_tcN, I_lt, I_le, I_eq, ↓reduceIte, not_true_eq_false, not_false_eq_true, nz, hs, hst]
    · subst hnode
      have hsc := h4 c rfl
      have hst : ¬ (n : Int) ≤ step := by omega
      have hcn : ¬ ((c : Int) = -1) := by omega
      have hbc := (hb c hc).1
      by_cases hx : x < r c
      · have hP' : LU r (c + 1) x found := by
          rcases hP with ⟨g1, g2⟩ | ⟨k, g1, g2, g3, g4⟩
          · left
            refine ⟨g1, fun a ha => ?_⟩
            by_cases e : a = c
            · rw [e]; exact hx
            · exact g2 a (by omega)
          · right
            refine ⟨k, by omega, g2, g3, fun a ha hax => ?_⟩
            by_cases e : a = c
            · rw [e] at hax; omega
            · exact g4 a (by omega) hax
        have hstep := At_step (P := fun b => LU r b x found) hd (fun j => LU_ext) hc hv hP'
        rw [decide_eq_true hx] at hstep
        obtain ⟨f, hf, e⟩ := ih found (ch true r c n) (step + 1) (by omega) (by omega) (by omega) (by omega) h3 (fun b hb => by have := hstep.2 b hb; omega) hstep.1
        refine ⟨f, hf, ?_⟩
        simp (disch := omega) only [↓bd_e, bq_e, bn_e, grd_e, I_add, I_sub, I_mul, I_neg, isZ0, isZ1, isZ_tf, tf_z, tf_le, I_lit, I_inB, I_tcN, I_lt, I_le, I_eq, ↓reduceIte, not_true_eq_false, not_false_eq_true, nz, hs, hst, hcn, hr, hl, hri, hx]
        exact e
      · have hP' : LU r (c + 1) x (c : Int) := by
          right
          refine ⟨c, by omega, rfl, by omega, fun a ha hax => ?_⟩
          by_cases e : a = c
          · rw [e]; exact Int.le_refl _
          · have := (hv a (by omega)).mpr hax
            omega
        have hstep := At_step (P := fun b => LU r b x (c : Int)) hd (fun j => LU_ext) hc hv hP'
        rw [decide_eq_false hx] at hstep
        obtain ⟨f, hf, e⟩ := ih (c : Int) (ch false r c n) (step + 1) (by omega) (by omega) (by omega) (by omega) (by omega) (fun b hb => by have := hstep.2 b hb; omega) hstep.1
        refine ⟨f, hf, ?_⟩
        simp (disch := omega) only [↓bd_e, bq_e, bn_e, grd_e, I_add, I_sub, I_mul, I_neg, isZ0, isZ1, isZ_tf, tf_z, tf_le, I_lit, I_inB, I_tcN, I_lt, I_le, I_eq, ↓reduceIte, not_true_eq_false, not_false_eq_true, nz, hs, hst, hcn, hr, hl, hri, hx]
        exact e
theorem lastUpTo_e (hs : rd o 6 t 0 = I (n : Int)) (hA : PA (fun k => o.1 k t) n r d y) (hB : PB n r d y) {x : Int} (hx1 : -2000000 ≤ x) (hx2 : x ≤ 2000000) : ∃ f, LU r n x f ∧ F_X1_lastUpTo o t (I x) = some (I f) := by
  have hn10 := hB.1
  unfold F_X1_lastUpTo
  by_cases h0 : (n : Int) ≤ 0
  · obtain ⟨f, hf, e⟩ := last_loop hs hA hB (fun v => some v) hx1 hx2 FU (-1) (-1) 0 (by omega) (by unfold FU; omega) (by unfold FU; omega) (by omega) (by omega) (fun c hc => by omega) (Or.inl ⟨rfl, Or.inl ⟨rfl, fun i hi => by omega⟩⟩)
    refine ⟨f, hf, ?_⟩
    simp (disch := omega) only [↓bd_e, bq_e, bn_e, grd_e, I_add, I_sub, I_mul, I_neg, isZ0, isZ1, isZ_tf, tf_z, tf_le, I_lit, I_inB, I_tcN, I_lt, I_le, I_eq, ↓reduceIte, not_true_eq_false, not_false_eq_true, nz, hs, h0]
    exact e
  · obtain ⟨f, hf, e⟩ := last_loop hs hA hB (fun v => some v) hx1 hx2 FU (-1) 0 0 (by omega) (by unfold FU; omega) (by unfold FU; omega) (by omega) (by omega) (fun c hc => by omega) (Or.inr ⟨0, by omega, rfl, fun i hi => by omega, Or.inl ⟨rfl, fun i hi => by omega⟩⟩)
    refine ⟨f, hf, ?_⟩
    simp (disch := omega) only [↓bd_e, bq_e, bn_e, grd_e, I_add, I_sub, I_mul, I_neg, isZ0, isZ1, isZ_tf, tf_z, tf_le, I_lit, I_inB, I_tcN, I_lt, I_le, I_eq, ↓reduceIte, not_true_eq_false, not_false_eq_true, nz, hs, h0]
    exact e
theorem first_loop (hs : rd o 6 t 0 = I (n : Int)) (hA : PA (fun k => o.1 k t) n r d y) (hB : PB n r d y) (kk : Int32 → Option Int32) {x : Int} (hx1 : -2000000 ≤ x) (hx2 : x ≤ 2000000) : ∀ (fuel : Nat) (found node step : Int), 0 ≤ step → 1 ≤ fuel → (n : Int) < step + fuel → step ≤ 1000 → -1 ≤ found → (∀ c : Nat, node = (c : Int) → step ≤ (c : Int)) → At r n x node (fun b => FA r b x found) → ∃ f, FA r n x f ∧ LX1_firstAbove_18 kk o t (I x) fuel (I found) (I node) (I step) = kk (I f) := by
  obtain ⟨hn10, hd, -, -, hb⟩ := hB
  have hr : ∀ k, k < n → rd o 7 t k = I (r k) := fun k hk => (hA k hk).1
  have hl : ∀ k, k < n → rd o 10 t k = I (ch true r k n) := fun k hk => (hA k hk).2.2.2.1
  have hri : ∀ k, k < n → rd o 11 t k = I (ch false r k n) := fun k hk => (hA k hk).2.2.2.2.1
  intro fuel
  induction fuel with
  | zero =>
    intro found node step h0 hf0 h1 h2 h3 h4 h5
    omega
  | succ fuel ih =>
    intro found node step h0 hf0 h1 h2 h3 h4 h5
    rw [LX1_firstAbove_18.eq_2]
    rcases h5 with ⟨hnode, hP⟩ | ⟨c, hc, hnode, hv, hP⟩
    · refine ⟨found, hP, ?_⟩
      subst hnode
      by_cases hst : (n : Int) ≤ step
      · simp (disch := omega) only [↓bd_e, bq_e, bn_e, grd_e, I_add, I_sub, I_mul, I_neg, isZ0, isZ1, isZ_tf, tf_z, tf_le, I_lit, I_inB, I_tcN, I_lt, I_le, I_eq, ↓reduceIte, not_true_eq_false, not_false_eq_true, nz, hs, hst]
      · simp (disch := omega) only [↓bd_e, bq_e, bn_e, grd_e, I_add, I_sub, I_mul, I_neg, isZ0, isZ1, isZ_tf, tf_z, tf_le, I_lit, I_inB, I_tcN, I_lt, I_le, I_eq, ↓reduceIte, not_true_eq_false, not_false_eq_true, nz, hs, hst]
    · subst hnode
      have hsc := h4 c rfl
      have hst : ¬ (n : Int) ≤ step := by omega
      have hcn : ¬ ((c : Int) = -1) := by omega
      have hbc := (hb c hc).1
      have hxx : (r c ≤ x) = ¬ (x < r c) := propext ⟨fun z => by omega, fun z => by omega⟩
      by_cases hx : x < r c
      · have hP' : FA r (c + 1) x (c : Int) := by
          right
          refine ⟨c, by omega, rfl, by omega, fun a ha hax => ?_⟩
          by_cases e : a = c
          · rw [e]; exact Int.le_refl _
          · have := hv a (by omega)
            omega
        have hstep := At_step (P := fun b => FA r b x (c : Int)) hd (fun j => FA_ext) hc hv hP'
        rw [decide_eq_true hx] at hstep
        obtain ⟨f, hf, e⟩ := ih (c : Int) (ch true r c n) (step + 1) (by omega) (by omega) (by omega) (by omega) (by omega) (fun b hb => by have := hstep.2 b hb; omega) hstep.1
        refine ⟨f, hf, ?_⟩
        simp (disch := omega) only [↓bd_e, bq_e, bn_e, grd_e, I_add, I_sub, I_mul, I_neg, isZ0, isZ1, isZ_tf, tf_z, tf_le, I_lit, I_inB, I_tcN, I_lt, I_le, I_eq, ↓reduceIte, not_true_eq_false, not_false_eq_true, nz, hs, hst, hcn, hr, hl, hri, hxx, hx]
        exact e
      · have hP' : FA r (c + 1) x found := by
          rcases hP with ⟨g1, g2⟩ | ⟨k, g1, g2, g3, g4⟩
          · left
            refine ⟨g1, fun a ha => ?_⟩
            by_cases e : a = c
            · rw [e]; omega
            · exact g2 a (by omega)
          · right
            refine ⟨k, by omega, g2, g3, fun a ha hax => ?_⟩
            by_cases e : a = c
            · rw [e] at hax; omega
            · exact g4 a (by omega) hax
        have hstep := At_step (P := fun b => FA r b x found) hd (fun j => FA_ext) hc hv hP'
        rw [decide_eq_false hx] at hstep
        obtain ⟨f, hf, e⟩ := ih found (ch false r c n) (step + 1) (by omega) (by omega) (by omega) (by omega) h3 (fun b hb => by have := hstep.2 b hb; omega) hstep.1
        refine ⟨f, hf, ?_⟩
        simp (disch := omega) only [↓bd_e, bq_e, bn_e, grd_e, I_add, I_sub, I_mul, I_neg, isZ0, isZ1, isZ_tf, tf_z, tf_le, I_lit, I_inB, I_tcN, I_lt, I_le, I_eq, ↓reduceIte, not_true_eq_false, not_false_eq_true, nz, hs, hst, hcn, hr, hl, hri, hxx, hx]
        exact e
theorem firstAbove_e (hs : rd o 6 t 0 = I (n : Int)) (hA : PA (fun k => o.1 k t) n r d y) (hB : PB n r d y) {x : Int} (hx1 : -2000000 ≤ x) (hx2 : x ≤ 2000000) : ∃ f, FA r n x f ∧ F_X1_firstAbove o t (I x) = some (I f) := by
  have hn10 := hB.1
  unfold F_X1_firstAbove
  by_cases h0 : (n : Int) ≤ 0
  · obtain ⟨f, hf, e⟩ := first_loop hs hA hB (fun v => some v) hx1 hx2 FU (-1) (-1) 0 (by omega) (by unfold FU; omega) (by unfold FU; omega) (by omega) (by omega) (fun c hc => by omega) (Or.inl ⟨rfl, Or.inl ⟨rfl, fun i hi => by omega⟩⟩)
    refine ⟨f, hf, ?_⟩
    simp (disch := omega) only [↓bd_e, bq_e, bn_e, grd_e, I_add, I_sub, I_mul, I_neg, isZ0, isZ1, isZ_tf, tf_z, tf_le, I_lit, I_inB, I_tcN, I_lt, I_le, I_eq, ↓reduceIte, not_true_eq_false, not_false_eq_true, nz, hs, h0]
    exact e
  · obtain ⟨f, hf, e⟩ := first_loop hs hA hB (fun v => some v) hx1 hx2 FU (-1) 0 0 (by omega) (by unfold FU; omega) (by unfold FU; omega) (by omega) (by omega) (fun c hc => by omega) (Or.inr ⟨0, by omega, rfl, fun i hi => by omega, Or.inl ⟨rfl, fun i hi => by omega⟩⟩)
    refine ⟨f, hf, ?_⟩
    simp (disch := omega) only [↓bd_e, bq_e, bn_e, grd_e, I_add, I_sub, I_mul, I_neg, isZ0, isZ1, isZ_tf, tf_z, tf_le, I_lit, I_inB, I_tcN, I_lt, I_le, I_eq, ↓reduceIte, not_true_eq_false, not_false_eq_true, nz, hs, h0]
    exact e
end
