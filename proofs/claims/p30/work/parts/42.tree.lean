/-! a point more: the tree -/
theorem rd_wr (o : OM) (k i j : Nat) (v : Int32) : rd (wr o k i j v) k i j = v := by simp [rd, wr, wrA, upd]
theorem rd_wj (o : OM) {k i j j' : Nat} (v : Int32) (h : j' ≠ j) : rd (wr o k i j v) k i j' = rd o k i j' := by simp [rd, wr, wrA, upd, h]
theorem rd_wk (o : OM) {k i j k' i' j' : Nat} (v : Int32) (h : k' ≠ k ∨ i' ≠ i) : rd (wr o k i j v) k' i' j' = rd o k' i' j' := by
  have : ¬ (k' = k ∧ i' = i) := by omega
  simp [rd, wr, wrA, this]
theorem wr_ne (o : OM) {k i j k' i' : Nat} (v : Int32) (h : k' ≠ k ∨ i' ≠ i) : (wr o k i j v).1 k' i' = o.1 k' i' := by
  have : ¬ (k' = k ∧ i' = i) := by omega
  simp [wr, wrA, this]
theorem wr_2 (o : OM) (k i j : Nat) (v : Int32) : (wr o k i j v).2 = o.2 := rfl
theorem wrA_ne (o : OM) {k i k' i' : Nat} (f : Nat → Int32) (h : k' ≠ k ∨ i' ≠ i) : (wrA o k i f).1 k' i' = o.1 k' i' := by
  have : ¬ (k' = k ∧ i' = i) := by omega
  simp [wrA, this]
theorem wrA_eq (o : OM) (k i : Nat) (f : Nat → Int32) : (wrA o k i f).1 k i = f := by simp [wrA]
theorem rd_wA (o : OM) {k i k' i' j' : Nat} (f : Nat → Int32) (h : k' ≠ k ∨ i' ≠ i) : rd (wrA o k i f) k' i' j' = rd o k' i' j' := by
  show (wrA o k i f).1 k' i' j' = _
  rw [wrA_ne o f h]
  rfl
theorem rd_wAs (o : OM) (k i j : Nat) (f : Nat → Int32) : rd (wrA o k i f) k i j = f j := by
  show (wrA o k i f).1 k i j = _
  rw [wrA_eq]
theorem wr_wA (o : OM) (k i j : Nat) (f : Nat → Int32) (v : Int32) : wr (wrA o k i f) k i j v = wrA o k i (upd f j v) := by
  unfold wr
  rw [wrA_eq]
  unfold wrA
  congr 1
  funext a b
  dsimp only
  split <;> rfl
theorem wr_A (o : OM) (k i j : Nat) (v : Int32) : wr o k i j v = wrA o k i (upd (o.1 k i) j v) := rfl
/-- nothing but the points of t is changed -/
def Fp (o o1 : OM) (t : Nat) : Prop := (∀ k i, ¬ (i = t ∧ 6 ≤ k ∧ k ≤ 13) → o1.1 k i = o.1 k i) ∧ o1.2 = o.2
theorem Fp.rf (o : OM) (t : Nat) : Fp o o t := ⟨fun _ _ _ => rfl, rfl⟩
theorem Fp.tr {o o1 o2 : OM} {t : Nat} (h : Fp o o1 t) (h' : Fp o1 o2 t) : Fp o o2 t := ⟨fun k i hk => (h'.1 k i hk).trans (h.1 k i hk), h'.2.trans h.2⟩
theorem Fp.wr {o o1 : OM} {t k j : Nat} {v : Int32} (h : Fp o o1 t) (hk : 6 ≤ k ∧ k ≤ 13) : Fp o (wr o1 k t j v) t :=
  ⟨fun k' i hk' => (wr_ne o1 v (by omega)).trans (h.1 k' i hk'), h.2⟩
theorem cnt_split {p : Nat → Bool} {c n : Nat} (hc : c < n) (hp : p c = true) (h : ∀ i, c < i → i < n → ¬ p i = true) : cnt p n = cnt p c + 1 := by
  induction n with
  | zero => omega
  | succ n ih =>
    show cnt p n + (if p n = true then 1 else 0) = _
    by_cases e : c = n
    · subst e
      rw [if_pos hp]
    · rw [ih (by omega) (fun i h1 h2 => h i h1 (by omega)), if_neg (h n (by omega) (by omega))]
section
variable {r : Nat → Int} {n c : Nat}
theorem leaf_ch (hd : Ds r (n + 1)) (hc : c < n) (hv : Vs r (r n) c) (hl : ch (decide (r n < r c)) r c n = -1) {k : Nat} (hk : k < n) (L : Bool) : ch L r k (n + 1) = if k = c ∧ L = decide (r n < r c) then (n : Int) else ch L r k n := by
  have hd' : Ds r n := fun i j hi hj e => hd i j (by omega) (by omega) e
  show (if ch L r k n = -1 ∧ isC L r k n = true then (n : Int) else ch L r k n) = _
  by_cases h : k = c ∧ L = decide (r n < r c)
  · obtain ⟨rfl, rfl⟩ := h
    have hne : r n ≠ r k := fun e => by have := hd n k (by omega) (by omega) e; omega
    rw [if_pos ⟨hl, isC_iff.mpr ⟨hk, rfl, hv⟩⟩, if_pos ⟨rfl, rfl⟩]
  · rw [if_neg h]
    by_cases h2 : ch L r k n = -1 ∧ isC L r k n = true
    · exfalso
      obtain ⟨h3, h4⟩ := h2
      rw [isC_iff] at h4
      obtain ⟨-, h5, h6⟩ := h4
      have s1 := step_none hd' hc hv hl k
      rw [← h5] at h3
      have s2 := step_none hd' hk h6 h3 c
      by_cases e : k = c
      · exact h ⟨e, by rw [← h5, e]⟩
      · by_cases l : k < c
        · exact s2 l hc hv
        · exact s1 (by omega) hk h6
    · rw [if_neg h2]
theorem leaf_dep (hd : Ds r (n + 1)) (hc : c < n) (hv : Vs r (r n) c) (hl : ch (decide (r n < r c)) r c n = -1) : dep r n = dep r c + 1 := by
  have hd' : Ds r n := fun i j hi hj e => hd i j (by omega) (by omega) e
  unfold dep
  rw [cnt_split hc (vs_iff.mpr hv) (fun i h1 h2 h3 => step_none hd' hc hv hl i h1 h2 (vs_iff.mp h3))]
  have : cnt (fun i => vs r (r n) i) c = cnt (fun i => vs r (r c) i) c := by
    apply cnt_c
    intro i hi
    have : Vs r (r n) i ↔ Vs r (r c) i := by
      constructor
      · intro h j hj
        have a1 := h j hj
        have a2 := hv j (by omega)
        have a3 : r j ≠ r c := fun e => by have := hd j c (by omega) (by omega) e; omega
        omega
      · intro h j hj
        have a1 := h j hj
        have a2 := hv j (by omega)
        have a3 : r j ≠ r c := fun e => by have := hd j c (by omega) (by omega) e; omega
        omega
    by_cases g : Vs r (r c) i
    · rw [vs_iff.mpr (this.mpr g), vs_iff.mpr g]
    · have h1 : ¬ vs r (r c) i = true := fun z => g (vs_iff.mp z)
      have h2 : ¬ vs r (r n) i = true := fun z => g (this.mp (vs_iff.mp z))
      rw [Bool.not_eq_true] at h1 h2
      rw [h1, h2]
  rw [this]
  omega
theorem fresh_ch (L : Bool) : ch L r n (n + 1) = -1 := by
  rcases ch_sp L r n (n + 1) with ⟨h, -⟩ | ⟨j, h1, -, h3, -⟩
  · exact h
  · rw [isC_iff] at h3
    omega
variable {o : OM} {t : Nat}
theorem hang_end (o : OM) (kk : OM → Option (Unit × OM)) {step : Int} (h1 : -2147483648 ≤ step) (h2 : step < 2147483648) (hn : n < 10) (fuel : Nat) : LX1_hang_33 kk (I (n : Int)) t (fuel + 1) o (I (-1)) (I step) = kk o := by
  rw [LX1_hang_33.eq_2]
  by_cases c : (n : Int) ≤ step
  · simp (disch := omega) only [↓bd_e, bq_e, bn_e, grd_e, I_add, I_sub, I_mul, I_neg, isZ0, isZ1, isZ_tf, tf_z, tf_le, I_lit, I_inB, I_tcN, I_lt, I_le, I_eq, ↓reduceIte, not_true_eq_false, not_false_eq_true, nz, c]
  · simp (disch := omega) only [↓bd_e, bq_e, bn_e, grd_e, I_add, I_sub, I_mul, I_neg, isZ0, isZ1, isZ_tf, tf_z, tf_le, I_lit, I_inB, I_tcN, I_lt, I_le, I_eq, ↓reduceIte, not_true_eq_false, not_false_eq_true, nz, c]
theorem hang_loop (hd : Ds r (n + 1)) (hn : n < 10) (hb : ∀ k, k < n + 1 → -100000 ≤ r k ∧ r k ≤ 100000) (hr : ∀ k, k < n + 1 → rd o 7 t k = I (r k)) (hl : ∀ k, k < n → rd o 10 t k = I (ch true r k n)) (hri : ∀ k, k < n → rd o 11 t k = I (ch false r k n)) (hdp : ∀ k, k < n → rd o 12 t k = I (dep r k : Int)) (kk : OM → Option (Unit × OM)) : ∀ (fuel c : Nat) (step : Int), 0 ≤ step → (n : Int) + 1 < step + fuel → c < n → Vs r (r n) c → step ≤ (c : Int) →
    ∃ c', c' < n ∧ Vs r (r n) c' ∧ ch (decide (r n < r c')) r c' n = -1 ∧ LX1_hang_33 kk (I (n : Int)) t fuel o (I (c : Int)) (I step) = kk (wr (wr o (if r n < r c' then 10 else 11) t c' (I (n : Int))) 12 t n (I ((dep r c' : Int) + 1))) := by
  have hd' : Ds r n := fun i j hi hj e => hd i j (by omega) (by omega) e
  intro fuel
  induction fuel with
  | zero => intro c step h1 h2 h3 h4 h5; omega
  | succ fuel ih =>
    intro c step h1 h2 h3 h4 h5
    obtain ⟨f2, hf2⟩ : ∃ f2, fuel = f2 + 1 := ⟨fuel - 1, by omega⟩
    rw [LX1_hang_33.eq_2]
    have b1 := hb c (by omega)
    have b2 := hb n (by omega)
    have e1 : ((n : Int) ≤ step) = False := eq_false (by omega)
    have e2 : ((c : Int) = -1) = False := eq_false (by omega)
    have dl := dep_le (r := r) (k := c)
    have hrg := fun L => ch_rg L r c n
    by_cases hx : r n < r c
    · have e3 : (r c ≤ r n) = False := eq_false (by omega)
      have hrg' := hrg true
      rcases Classical.em (ch true r c n = -1) with h | h
      · refine ⟨c, h3, h4, by rw [decide_eq_true hx]; exact h, ?_⟩
        rw [if_pos hx]
        simp (disch := omega) only [↓bd_e, bq_e, bn_e, grd_e, I_add, I_sub, I_mul, I_neg, isZ0, isZ1, isZ_tf, tf_z, tf_le, I_lit, I_inB, I_tcN, I_lt, I_le, I_eq, ↓reduceIte, not_true_eq_false, not_false_eq_true, nz, e1, e2, e3, hr, hl, h, rd_wk, hdp]
        rw [hf2]
        exact hang_end _ kk (by omega) (by omega) hn f2
      · obtain ⟨b', hb'⟩ : ∃ b' : Nat, ch true r c n = (b' : Int) := ⟨(ch true r c n).toNat, by omega⟩
        obtain ⟨g1, g2, g3, g4⟩ := step_some (x := r n) hd' h3 h4 (by rw [decide_eq_true hx]; exact hb')
        obtain ⟨c', i1, i2, i3, i4⟩ := ih b' (step + 1) (by omega) (by omega) g2 g3 (by omega)
        refine ⟨c', i1, i2, i3, ?_⟩
        rw [← i4]
        have e4 : ((b' : Int) = -1) = False := eq_false (by omega)
        simp (disch := omega) only [↓bd_e, bq_e, bn_e, grd_e, I_add, I_sub, I_mul, I_neg, isZ0, isZ1, isZ_tf, tf_z, tf_le, I_lit, I_inB, I_tcN, I_lt, I_le, I_eq, ↓reduceIte, not_true_eq_false, not_false_eq_true, nz, e1, e2, e3, hr, hl, hb', e4]
    · have e3 : (r c ≤ r n) = True := eq_true (by omega)
      have hrg' := hrg false
      rcases Classical.em (ch false r c n = -1) with h | h
      · refine ⟨c, h3, h4, by rw [decide_eq_false hx]; exact h, ?_⟩
        rw [if_neg hx]
        simp (disch := omega) only [↓bd_e, bq_e, bn_e, grd_e, I_add, I_sub, I_mul, I_neg, isZ0, isZ1, isZ_tf, tf_z, tf_le, I_lit, I_inB, I_tcN, I_lt, I_le, I_eq, ↓reduceIte, not_true_eq_false, not_false_eq_true, nz, e1, e2, e3, hr, hri, h, rd_wk, hdp]
        rw [hf2]
        exact hang_end _ kk (by omega) (by omega) hn f2
      · obtain ⟨b', hb'⟩ : ∃ b' : Nat, ch false r c n = (b' : Int) := ⟨(ch false r c n).toNat, by omega⟩
        obtain ⟨g1, g2, g3, g4⟩ := step_some (x := r n) hd' h3 h4 (by rw [decide_eq_false hx]; exact hb')
        obtain ⟨c', i1, i2, i3, i4⟩ := ih b' (step + 1) (by omega) (by omega) g2 g3 (by omega)
        refine ⟨c', i1, i2, i3, ?_⟩
        rw [← i4]
        have e4 : ((b' : Int) = -1) = False := eq_false (by omega)
        simp (disch := omega) only [↓bd_e, bq_e, bn_e, grd_e, I_add, I_sub, I_mul, I_neg, isZ0, isZ1, isZ_tf, tf_z, tf_le, I_lit, I_inB, I_tcN, I_lt, I_le, I_eq, ↓reduceIte, not_true_eq_false, not_false_eq_true, nz, e1, e2, e3, hr, hri, hb', e4]
/-- kinds 10 to 12 of t alone are changed -/
theorem hang_e (hd : Ds r (n + 1)) (hn : n < 10) (hb : ∀ k, k < n + 1 → -100000 ≤ r k ∧ r k ≤ 100000) (hr : ∀ k, k < n + 1 → rd o 7 t k = I (r k)) (hl : ∀ k, k < n → rd o 10 t k = I (ch true r k n)) (hri : ∀ k, k < n → rd o 11 t k = I (ch false r k n)) (hdp : ∀ k, k < n → rd o 12 t k = I (dep r k : Int)) :
    ∃ o1, F_X1_hang o t (I (n : Int)) = some ((), o1) ∧ (∀ k i, ¬ (i = t ∧ 10 ≤ k ∧ k ≤ 12) → o1.1 k i = o.1 k i) ∧ o1.2 = o.2 ∧ (∀ k, k < n + 1 → rd o1 10 t k = I (ch true r k (n + 1)) ∧ rd o1 11 t k = I (ch false r k (n + 1)) ∧ rd o1 12 t k = I (dep r k : Int)) := by
  unfold F_X1_hang
  by_cases h0 : n = 0
  · subst h0
    refine ⟨wr (wr (wr o 10 t 0 (I (-1))) 11 t 0 (I (-1))) 12 t 0 (I 1), ?_, ?_, rfl, ?_⟩
    · simp (disch := omega) only [↓bd_e, bq_e, bn_e, grd_e, I_add, I_sub, I_mul, I_neg, isZ0, isZ1, isZ_tf, tf_z, tf_le, I_lit, I_inB, I_tcN, I_lt, I_le, I_eq, ↓reduceIte, not_true_eq_false, not_false_eq_true, nz, show (((0 : Nat) : Int) ≤ 0) = True from by simp]
      exact hang_end (n := 0) _ _ (by omega) (by omega) (by omega) 1999
    · intro k i hk
      rw [wr_ne _ _ (by omega), wr_ne _ _ (by omega), wr_ne _ _ (by omega)]
    · intro k hk
      have : k = 0 := by omega
      subst this
      rw [rd_wk _ _ (by omega), rd_wk _ _ (by omega), rd_wr, rd_wk _ _ (by omega), rd_wr, rd_wr]
      exact ⟨rfl, rfl, rfl⟩
  · have e0 : ((n : Int) ≤ 0) = False := eq_false (by omega)
    obtain ⟨c, c1, c2, c3, c4⟩ := hang_loop (o := wr (wr (wr o 10 t n (I (-1))) 11 t n (I (-1))) 12 t n (I 1)) (t := t) hd hn hb (fun k hk => by rw [rd_wk _ _ (by omega), rd_wk _ _ (by omega), rd_wk _ _ (by omega)]; exact hr k hk) (fun k hk => by rw [rd_wk _ _ (by omega), rd_wk _ _ (by omega), rd_wj _ _ (by omega)]; exact hl k hk) (fun k hk => by rw [rd_wk _ _ (by omega), rd_wj _ _ (by omega), rd_wk _ _ (by omega)]; exact hri k hk) (fun k hk => by rw [rd_wj _ _ (by omega), rd_wk _ _ (by omega), rd_wk _ _ (by omega)]; exact hdp k hk) (fun o_5 => some ((), o_5)) FU 0 0 (by omega) (by unfold FU; omega) (by omega) (fun i hi => by omega) (by omega)
    refine ⟨wr (wr (wr (wr (wr o 10 t n (I (-1))) 11 t n (I (-1))) 12 t n (I 1)) (if r n < r c then 10 else 11) t c (I (n : Int))) 12 t n (I ((dep r c : Int) + 1)), ?_, ?_, rfl, ?_⟩
    · simp (disch := omega) only [↓bd_e, bq_e, bn_e, grd_e, I_add, I_sub, I_mul, I_neg, isZ0, isZ1, isZ_tf, tf_z, tf_le, I_lit, I_inB, I_tcN, I_lt, I_le, I_eq, ↓reduceIte, not_true_eq_false, not_false_eq_true, nz, e0]
      exact c4
    · intro k i hk
      rw [wr_ne _ _ (by omega), wr_ne _ _ (by split <;> omega), wr_ne _ _ (by omega), wr_ne _ _ (by omega), wr_ne _ _ (by omega)]
    · have hlc := fun (k : Nat) (hk : k < n) => leaf_ch hd c1 c2 c3 hk
      have hdc := leaf_dep hd c1 c2 c3
      intro k hk
      by_cases hkn : k = n
      · subst hkn
        rw [fresh_ch, fresh_ch, hdc]
        by_cases hx : r k < r c
        · rw [if_pos hx]
          simp (disch := omega) only [rd_wr, rd_wj, rd_wk]
          exact ⟨trivial, trivial, rfl⟩
        · rw [if_neg hx]
          simp (disch := omega) only [rd_wr, rd_wj, rd_wk]
          exact ⟨trivial, trivial, rfl⟩
      · rw [hlc k (by omega) true, hlc k (by omega) false]
        have q1 := hl k (by omega)
        have q2 := hri k (by omega)
        have q3 := hdp k (by omega)
        by_cases hx : r n < r c
        · rw [if_pos hx, decide_eq_true hx]
          by_cases hkc : k = c
          · subst hkc
            rw [if_pos ⟨rfl, rfl⟩, if_neg (fun z => by cases z.2)]
            simp (disch := omega) only [rd_wr, rd_wj, rd_wk, q2, q3]
            exact ⟨trivial, trivial, trivial⟩
          · rw [if_neg (fun z => hkc z.1), if_neg (fun z => hkc z.1)]
            simp (disch := omega) only [rd_wr, rd_wj, rd_wk, q1, q2, q3]
            exact ⟨trivial, trivial, trivial⟩
        · rw [if_neg hx, decide_eq_false hx]
          by_cases hkc : k = c
          · subst hkc
            rw [if_pos (c := k = k ∧ false = false) ⟨rfl, rfl⟩, if_neg (fun z => by cases z.2)]
            simp (disch := omega) only [rd_wr, rd_wj, rd_wk, q1, q3]
            exact ⟨trivial, trivial, trivial⟩
          · rw [if_neg (fun z => hkc z.1), if_neg (fun z => hkc z.1)]
            simp (disch := omega) only [rd_wr, rd_wj, rd_wk, q1, q2, q3]
            exact ⟨trivial, trivial, trivial⟩
end
