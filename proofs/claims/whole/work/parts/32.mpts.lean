/-! the points of the model: its looks -/
def MS (o : OM) (S : Int → Int) : Prop := ∀ a : Int, 0 ≤ a → a < 244 → rd o 20 0 (I a).toNatClampNeg = I (S a)
def pr (S : Int → Int) (g k : Nat) : Int := S (38 * (g : Int) + (8 + 3 * (k : Int)))
def pd (S : Int → Int) (g k : Nat) : Int := S (38 * (g : Int) + (8 + 3 * (k : Int)) + 1)
def py (S : Int → Int) (g k : Nat) : Int := S (38 * (g : Int) + (8 + 3 * (k : Int)) + 2)
theorem of_e (o : OM) (a b : Int) : F_X6_of o (I a) (I b) = some (I (38 * a + b)) := by
  unfold F_X6_of
  simp only [↓bd_e, bq_e, bn_e, grd_e, I_add, I_sub, I_mul, I_neg, isZ0, isZ1, isZ_tf, tf_z, tf_le, I_lit, I_inB, I_tcN, I_lt, I_le, I_eq, ↓reduceIte, not_true_eq_false, not_false_eq_true, nz, Int.zero_add]
section
variable {o : OM} {S : Int → Int} {g n : Nat}
theorem get_e (hS : MS o S) (hg : g < 6) {w : Int} (h1 : 0 ≤ w) (h2 : w < 38) : F_X6_get o (I (g : Int)) (I w) = some (I (S (38 * (g : Int) + w))) := by
  unfold F_X6_get
  simp (disch := omega) only [↓bd_e, bq_e, bn_e, grd_e, I_add, I_sub, I_mul, I_neg, isZ0, isZ1, isZ_tf, tf_z, tf_le, I_lit, I_inB, I_tcN, I_lt, I_le, I_eq, ↓reduceIte, not_true_eq_false, not_false_eq_true, nz, of_e]
  rw [hS _ (by omega) (by omega)]
theorem pointOf_e (hS : MS o S) (hg : g < 6) {k : Nat} (hk : k < 10) {w : Int} (h1 : 0 ≤ w) (h2 : w < 3) : F_X6_pointOf o (I (g : Int)) (I (k : Int)) (I w) = some (I (S (38 * (g : Int) + (8 + 3 * (k : Int) + w)))) := by
  unfold F_X6_pointOf
  simp (disch := omega) only [↓bd_e, bq_e, bn_e, grd_e, I_add, I_sub, I_mul, I_neg, isZ0, isZ1, isZ_tf, tf_z, tf_le, I_lit, I_inB, I_tcN, I_lt, I_le, I_eq, ↓reduceIte, not_true_eq_false, not_false_eq_true, nz, of_e]
  rw [hS _ (by omega) (by omega)]
theorem pt0 (hS : MS o S) (hg : g < 6) {k : Nat} (hk : k < 10) : F_X6_pointOf o (I (g : Int)) (I (k : Int)) (I 0) = some (I (pr S g k)) := by
  rw [pointOf_e hS hg hk (by omega) (by omega)]
  unfold pr
  congr 3
theorem pt1 (hS : MS o S) (hg : g < 6) {k : Nat} (hk : k < 10) : F_X6_pointOf o (I (g : Int)) (I (k : Int)) (I 1) = some (I (pd S g k)) := by
  rw [pointOf_e hS hg hk (by omega) (by omega)]
  unfold pd
  congr 3
theorem pt2 (hS : MS o S) (hg : g < 6) {k : Nat} (hk : k < 10) : F_X6_pointOf o (I (g : Int)) (I (k : Int)) (I 2) = some (I (py S g k)) := by
  rw [pointOf_e hS hg hk (by omega) (by omega)]
  unfold py
  congr 3
theorem get7 (hS : MS o S) (hg : g < 6) (hn : S (38 * (g : Int) + 7) = (n : Int)) : F_X6_get o (I (g : Int)) (I 7) = some (I (n : Int)) := by
  rw [get_e hS hg (by omega) (by omega), hn]
theorem pointAt_loop (hS : MS o S) (hg : g < 6) (hn : S (38 * (g : Int) + 7) = (n : Int)) (hB : PB n (pr S g) (pd S g) (py S g)) (kk : Int32 → Option Int32) {z : Int} (hz1 : -2000 ≤ z) (hz2 : z ≤ 2000) : ∀ (fuel i : Nat) (f : Int), n < i + fuel → i ≤ n → IX (pd S g) i z f → ∃ f', IX (pd S g) n z f' ∧ LX6_pointAt_5 kk o (I (g : Int)) (I z) fuel (I f) (I (i : Int)) = kk (I f') := by
  have hn10 := hB.1
  have h7 := get7 hS hg hn
  have hp1 : ∀ k : Nat, k < 10 → F_X6_pointOf o (I (g : Int)) (I (k : Int)) (I 1) = some (I (pd S g k)) := fun k hk => pt1 hS hg hk
  intro fuel
  induction fuel with
  | zero => intro i f h1 h2; omega
  | succ fuel ih =>
    intro i f h1 h2 h3
    rw [LX6_pointAt_5.eq_2]
    by_cases hi : (n : Int) ≤ (i : Int)
    · have : i = n := by omega
      subst this
      refine ⟨f, h3, ?_⟩
      simp (disch := omega) only [↓bd_e, bq_e, bn_e, grd_e, I_add, I_sub, I_mul, I_neg, isZ0, isZ1, isZ_tf, tf_z, tf_le, I_lit, I_inB, I_tcN, I_lt, I_le, I_eq, ↓reduceIte, not_true_eq_false, not_false_eq_true, nz, h7, hi]
    · have hb := (hB.2.2.2.2 i (by omega)).2.1
      by_cases he : pd S g i = z
      · obtain ⟨f', h4, e⟩ := ih (i + 1) (i : Int) (by omega) (by omega) (Or.inr ⟨i, by omega, rfl, he⟩)
        refine ⟨f', h4, ?_⟩
        simp (disch := omega) only [↓bd_e, bq_e, bn_e, grd_e, I_add, I_sub, I_mul, I_neg, isZ0, isZ1, isZ_tf, tf_z, tf_le, I_lit, I_inB, I_tcN, I_lt, I_le, I_eq, ↓reduceIte, not_true_eq_false, not_false_eq_true, nz, h7, hi, hp1, he]
        exact e
      · obtain ⟨f', h4, e⟩ := ih (i + 1) f (by omega) (by omega) (by
          rcases h3 with ⟨g1, g2⟩ | ⟨k, g1, g2, g3⟩
          · refine Or.inl ⟨g1, fun j hj => ?_⟩
            by_cases e : j = i
            · rw [e]; exact he
            · exact g2 j (by omega)
          · exact Or.inr ⟨k, by omega, g2, g3⟩)
        refine ⟨f', h4, ?_⟩
        simp (disch := omega) only [↓bd_e, bq_e, bn_e, grd_e, I_add, I_sub, I_mul, I_neg, isZ0, isZ1, isZ_tf, tf_z, tf_le, I_lit, I_inB, I_tcN, I_lt, I_le, I_eq, ↓reduceIte, not_true_eq_false, not_false_eq_true, nz, h7, hi, hp1, he]
        exact e
theorem pointAt_e (hS : MS o S) (hg : g < 6) (hn : S (38 * (g : Int) + 7) = (n : Int)) (hB : PB n (pr S g) (pd S g) (py S g)) {z : Int} (hz1 : -2000 ≤ z) (hz2 : z ≤ 2000) : ∃ f, IX (pd S g) n z f ∧ F_X6_pointAt o (I (g : Int)) (I z) = some (I f) := by
  obtain ⟨f, hf, e⟩ := pointAt_loop hS hg hn hB (fun v => some v) hz1 hz2 FU 0 (-1) (by have := hB.1; unfold FU; omega) (by omega) (Or.inl ⟨rfl, fun i hi => by omega⟩)
  refine ⟨f, hf, ?_⟩
  unfold F_X6_pointAt
  simp only [↓bd_e, bq_e, bn_e, grd_e, I_add, I_sub, I_mul, I_neg, isZ0, isZ1, isZ_tf, tf_z, tf_le, I_lit, I_inB, I_tcN, I_lt, I_le, I_eq, ↓reduceIte, not_true_eq_false, not_false_eq_true, nz]
  exact e
theorem mcrosses_loop (hS : MS o S) (hg : g < 6) (hn : S (38 * (g : Int) + 7) = (n : Int)) (hB : PB n (pr S g) (pd S g) (py S g)) (kk : Int32 → Option Int32) {x z : Int} (hx1 : -2000000 ≤ x) (hx2 : x ≤ 2000000) (hz1 : -2000 ≤ z) (hz2 : z ≤ 2000) : ∀ (fuel i : Nat), n < i + fuel → i ≤ n →
    (Crs (pr S g) (pd S g) i x z → LX6_crosses_6 kk o (I (g : Int)) (I z) (I x) fuel (I 1) (I (i : Int)) = kk (I 1)) ∧
    (¬ Crs (pr S g) (pd S g) i x z → (Crs (pr S g) (pd S g) n x z ∧ LX6_crosses_6 kk o (I (g : Int)) (I z) (I x) fuel (I 0) (I (i : Int)) = kk (I 1)) ∨ (¬ Crs (pr S g) (pd S g) n x z ∧ LX6_crosses_6 kk o (I (g : Int)) (I z) (I x) fuel (I 0) (I (i : Int)) = kk (I 0))) := by
  have hn10 := hB.1
  have h7 := get7 hS hg hn
  have hp1 : ∀ k : Nat, k < 10 → F_X6_pointOf o (I (g : Int)) (I (k : Int)) (I 1) = some (I (pd S g k)) := fun k hk => pt1 hS hg hk
  have hp0 : ∀ k : Nat, k < 10 → F_X6_pointOf o (I (g : Int)) (I (k : Int)) (I 0) = some (I (pr S g k)) := fun k hk => pt0 hS hg hk
  intro fuel
  induction fuel with
  | zero => intro i h1 h2; omega
  | succ fuel ih =>
    intro i h1 h2
    have mono : ∀ {a b : Nat}, a ≤ b → Crs (pr S g) (pd S g) a x z → Crs (pr S g) (pd S g) b x z := fun hab ⟨j, hj, hz⟩ => ⟨j, by omega, hz⟩
    have e : (I ((i : Int) + 1)) = I ((i + 1 : Nat) : Int) := rfl
    have e10 : ((1 : Int) = 0) = False := by simp
    constructor
    · intro hc
      rw [LX6_crosses_6.eq_2]
      by_cases hi : (n : Int) ≤ (i : Int)
      · simp (disch := omega) only [↓bd_e, bq_e, bn_e, grd_e, I_add, I_sub, I_mul, I_neg, isZ0, isZ1, isZ_tf, tf_z, tf_le, I_lit, I_inB, I_tcN, I_lt, I_le, I_eq, ↓reduceIte, not_true_eq_false, not_false_eq_true, nz, h7, hi]
      · simp (disch := omega) only [↓bd_e, bq_e, bn_e, grd_e, I_add, I_sub, I_mul, I_neg, isZ0, isZ1, isZ_tf, tf_z, tf_le, I_lit, I_inB, I_tcN, I_lt, I_le, I_eq, ↓reduceIte, not_true_eq_false, not_false_eq_true, nz, h7, hi, hp0, hp1, e10]
        rw [e]
        exact (ih (i + 1) (by omega) (by omega)).1 (mono (by omega) hc)
    · intro hc
      rw [LX6_crosses_6.eq_2]
      by_cases hi : (n : Int) ≤ (i : Int)
      · have : i = n := by omega
        subst this
        right
        refine ⟨hc, ?_⟩
        simp (disch := omega) only [↓bd_e, bq_e, bn_e, grd_e, I_add, I_sub, I_mul, I_neg, isZ0, isZ1, isZ_tf, tf_z, tf_le, I_lit, I_inB, I_tcN, I_lt, I_le, I_eq, ↓reduceIte, not_true_eq_false, not_false_eq_true, nz, h7, hi]
      · have hb := hB.2.2.2.2 i (by omega)
        have hrec := ih (i + 1) (by omega) (by omega)
        by_cases ht : pd S g i ≠ z ∧ (pr S g i = x ∨ ¬ (pr S g i < x ↔ pd S g i < z))
        · have hc1 : Crs (pr S g) (pd S g) (i + 1) x z := ⟨i, by omega, ht⟩
          left
          refine ⟨mono (by omega) hc1, ?_⟩
          have c1 : (pd S g i = z) = False := eq_false ht.1
          by_cases c2 : pr S g i = x
          · simp (disch := omega) only [↓bd_e, bq_e, bn_e, grd_e, I_add, I_sub, I_mul, I_neg, isZ0, isZ1, isZ_tf, tf_z, tf_le, I_lit, I_inB, I_tcN, I_lt, I_le, I_eq, ↓reduceIte, not_true_eq_false, not_false_eq_true, nz, h7, hi, hp0, hp1, c1, c2]
            exact hrec.1 hc1
          · by_cases c3 : x ≤ pr S g i
            · have c4 : (pr S g i ≤ x) = False := eq_false (by omega)
              have c5 : (z ≤ pd S g i) = False := eq_false (by omega)
              simp (disch := omega) only [↓bd_e, bq_e, bn_e, grd_e, I_add, I_sub, I_mul, I_neg, isZ0, isZ1, isZ_tf, tf_z, tf_le, I_lit, I_inB, I_tcN, I_lt, I_le, I_eq, ↓reduceIte, not_true_eq_false, not_false_eq_true, nz, h7, hi, hp0, hp1, c1, c2, c3, c4, c5]
              exact hrec.1 hc1
            · have c5 : (z < pd S g i) = True := eq_true (by omega)
              simp (disch := omega) only [↓bd_e, bq_e, bn_e, grd_e, I_add, I_sub, I_mul, I_neg, isZ0, isZ1, isZ_tf, tf_z, tf_le, I_lit, I_inB, I_tcN, I_lt, I_le, I_eq, ↓reduceIte, not_true_eq_false, not_false_eq_true, nz, h7, hi, hp0, hp1, c1, c2, c3, c5]
              exact hrec.1 hc1
        · have hc1 : ¬ Crs (pr S g) (pd S g) (i + 1) x z := fun ⟨j, hj, hz⟩ => by
            by_cases hji : j = i
            · rw [hji] at hz; exact ht hz
            · exact hc ⟨j, by omega, hz⟩
          have hrec := hrec.2 hc1
          by_cases c1 : pd S g i = z
          · simp (disch := omega) only [↓bd_e, bq_e, bn_e, grd_e, I_add, I_sub, I_mul, I_neg, isZ0, isZ1, isZ_tf, tf_z, tf_le, I_lit, I_inB, I_tcN, I_lt, I_le, I_eq, ↓reduceIte, not_true_eq_false, not_false_eq_true, nz, h7, hi, hp0, hp1, c1]
            rw [e]
            exact hrec
          · have c2 : ¬ pr S g i = x := fun z => ht ⟨c1, Or.inl z⟩
            by_cases c3 : x ≤ pr S g i
            · have c4 : (pr S g i ≤ x) = False := eq_false (by omega)
              have c5 : (z ≤ pd S g i) = True := eq_true (by omega)
              simp (disch := omega) only [↓bd_e, bq_e, bn_e, grd_e, I_add, I_sub, I_mul, I_neg, isZ0, isZ1, isZ_tf, tf_z, tf_le, I_lit, I_inB, I_tcN, I_lt, I_le, I_eq, ↓reduceIte, not_true_eq_false, not_false_eq_true, nz, h7, hi, hp0, hp1, c1, c2, c3, c4, c5]
              rw [e]
              exact hrec
            · have c4 : (pr S g i ≤ x) = True := eq_true (by omega)
              have c5 : (z < pd S g i) = False := eq_false (by omega)
              simp (disch := omega) only [↓bd_e, bq_e, bn_e, grd_e, I_add, I_sub, I_mul, I_neg, isZ0, isZ1, isZ_tf, tf_z, tf_le, I_lit, I_inB, I_tcN, I_lt, I_le, I_eq, ↓reduceIte, not_true_eq_false, not_false_eq_true, nz, h7, hi, hp0, hp1, c1, c2, c3, c4, c5]
              rw [e]
              exact hrec
theorem mcrosses_e (hS : MS o S) (hg : g < 6) (hn : S (38 * (g : Int) + 7) = (n : Int)) (hB : PB n (pr S g) (pd S g) (py S g)) {x z : Int} (hx1 : -2000000 ≤ x) (hx2 : x ≤ 2000000) (hz1 : -2000 ≤ z) (hz2 : z ≤ 2000) : (Crs (pr S g) (pd S g) n x z ∧ F_X6_crosses o (I (g : Int)) (I x) (I z) = some (I 1)) ∨ (¬ Crs (pr S g) (pd S g) n x z ∧ F_X6_crosses o (I (g : Int)) (I x) (I z) = some (I 0)) := by
  have := (mcrosses_loop hS hg hn hB (fun v => grd (isZ v) (some v)) hx1 hx2 hz1 hz2 FU 0 (by have := hB.1; unfold FU; omega) (by omega)).2 (fun ⟨j, hj, _⟩ => by omega)
  simp only [isZ0, isZ1, grd_e] at this
  unfold F_X6_crosses
  simp only [↓bd_e, bq_e, bn_e, grd_e, I_add, I_sub, I_mul, I_neg, isZ0, isZ1, isZ_tf, tf_z, tf_le, I_lit, I_inB, I_tcN, I_lt, I_le, I_eq, ↓reduceIte, not_true_eq_false, not_false_eq_true, nz]
  exact this
theorem depthOf_loop (hS : MS o S) (hg : g < 6) (hn10 : n ≤ 10) {r : Nat → Int} (hr : pr S g = r) (hd : Ds r n) (hbb : ∀ k, k < n → -100000 ≤ r k ∧ r k ≤ 100000) (kk : Int32 → Option Int32) {p : Nat} (hp : p < n) : ∀ (fuel i : Nat) (lo hi : Int), p < i + fuel → i ≤ p →
    (∀ j, j < i → r j < r p → r j ≤ lo) → (∀ j, j < i → r p < r j → hi ≤ r j) → (lo = -1000000 ∨ ∃ j, j < i ∧ lo = r j ∧ r j < r p) → (hi = 1000000 ∨ ∃ j, j < i ∧ hi = r j ∧ r p < r j) →
    LX6_depthOf_22 kk (I (p : Int)) o (I (g : Int)) (I (r p)) fuel (I lo) (I hi) (I (1 + (cnt (fun j => vs r (r p) j) i : Int))) (I (i : Int)) = kk (I (dep r p : Int)) := by
  have hp0 : ∀ k : Nat, k < 10 → F_X6_pointOf o (I (g : Int)) (I (k : Int)) (I 0) = some (I (r k)) := fun k hk => by rw [← hr]; exact pt0 hS hg hk
  intro fuel
  induction fuel with
  | zero => intro i lo hi h1 h2; omega
  | succ fuel ih =>
    intro i lo hi h1 h2 h3 h4 h5 h6
    rw [LX6_depthOf_22.eq_2]
    have hcl := cnt_le (fun j => vs r (r p) j) i
    by_cases hi0 : (p : Int) ≤ (i : Int)
    · have : i = p := by omega
      subst this
      simp (disch := omega) only [↓bd_e, bq_e, bn_e, grd_e, I_add, I_sub, I_mul, I_neg, isZ0, isZ1, isZ_tf, tf_z, tf_le, I_lit, I_inB, I_tcN, I_lt, I_le, I_eq, ↓reduceIte, not_true_eq_false, not_false_eq_true, nz, hi0]
      rfl
    · have hbp := hbb p hp
      have hbi := hbb i (by omega)
      have hne : r i ≠ r p := fun e => by have := hd i p (by omega) hp e; omega
      have hlo : -1000000 ≤ lo ∧ lo < r p := by
        rcases h5 with z | ⟨j, j1, j2, j3⟩
        · omega
        · have := hbb j (by omega); omega
      have hhi : r p < hi ∧ hi ≤ 1000000 := by
        rcases h6 with z | ⟨j, j1, j2, j3⟩
        · omega
        · have := hbb j (by omega); omega
      have ecnt : (cnt (fun j => vs r (r p) j) (i + 1) : Int) = (cnt (fun j => vs r (r p) j) i : Int) + (if vs r (r p) i = true then 1 else 0) := by
        show ((cnt (fun j => vs r (r p) j) i + (if vs r (r p) i = true then 1 else 0) : Nat) : Int) = _
        split <;> omega
      have key : vs r (r p) i = true ↔ (lo < r i ∧ r i < hi) := by
        rw [vs_iff]
        constructor
        · intro hv
          constructor
          · rcases h5 with z | ⟨j, j1, j2, j3⟩
            · omega
            · have := (hv j j1).mpr (by omega); omega
          · rcases h6 with z | ⟨j, j1, j2, j3⟩
            · omega
            · have h7 := hv j j1
              have h8 : r j ≠ r i := fun e => by have := hd j i (by omega) (by omega) e; omega
              omega
        · rintro ⟨a1, a2⟩ j hj
          have h8 : r j ≠ r p := fun e => by have := hd j p (by omega) hp e; omega
          by_cases hjp : r j < r p
          · have := h3 j hj hjp
            constructor <;> intro _ <;> omega
          · have := h4 j hj (by omega)
            constructor <;> intro _ <;> omega
      by_cases hv : vs r (r p) i = true
      · have c1 := key.mp hv
        rw [if_pos hv] at ecnt
        have c2 : (r i ≤ lo) = False := eq_false (by omega)
        have c3 : (hi ≤ r i) = False := eq_false (by omega)
        have e10 : ((1 : Int) = 0) = False := by simp
        by_cases hl : r i < r p
        · have c4 : (r p ≤ r i) = False := eq_false (by omega)
          have c5 : (r i ≤ r p) = True := eq_true (by omega)
          have hrec := ih (i + 1) (r i) hi (by omega) (by omega) (fun j hj hjp => by
              by_cases e : j = i
              · rw [e]; exact Int.le_refl _
              · have := h3 j (by omega) hjp; omega) (fun j hj hjp => by
              by_cases e : j = i
              · rw [e] at hjp; omega
              · exact h4 j (by omega) hjp) (Or.inr ⟨i, by omega, rfl, hl⟩) (by
              rcases h6 with z | ⟨j, j1, j2, j3⟩
              · exact Or.inl z
              · exact Or.inr ⟨j, by omega, j2, j3⟩)
          rw [ecnt] at hrec
          simp (disch := omega) only [↓bd_e, bq_e, bn_e, grd_e, I_add, I_sub, I_mul, I_neg, isZ0, isZ1, isZ_tf, tf_z, tf_le, I_lit, I_inB, I_tcN, I_lt, I_le, I_eq, ↓reduceIte, not_true_eq_false, not_false_eq_true, nz, hi0, hp0, c2, c3, c4, c5, e10, Int.add_assoc]
          exact hrec
        · have c4 : (r p ≤ r i) = True := eq_true (by omega)
          have c5 : (r i ≤ r p) = False := eq_false (by omega)
          have hrec := ih (i + 1) lo (r i) (by omega) (by omega) (fun j hj hjp => by
              by_cases e : j = i
              · rw [e] at hjp; omega
              · exact h3 j (by omega) hjp) (fun j hj hjp => by
              by_cases e : j = i
              · rw [e]; exact Int.le_refl _
              · have := h4 j (by omega) hjp; omega) (by
              rcases h5 with z | ⟨j, j1, j2, j3⟩
              · exact Or.inl z
              · exact Or.inr ⟨j, by omega, j2, j3⟩) (Or.inr ⟨i, by omega, rfl, by omega⟩)
          rw [ecnt] at hrec
          simp (disch := omega) only [↓bd_e, bq_e, bn_e, grd_e, I_add, I_sub, I_mul, I_neg, isZ0, isZ1, isZ_tf, tf_z, tf_le, I_lit, I_inB, I_tcN, I_lt, I_le, I_eq, ↓reduceIte, not_true_eq_false, not_false_eq_true, nz, hi0, hp0, c2, c3, c4, c5, e10, Int.add_assoc]
          exact hrec
      · have c1 : ¬ (lo < r i ∧ r i < hi) := fun z => hv (key.mpr z)
        rw [if_neg hv] at ecnt
        have hrec := ih (i + 1) lo hi (by omega) (by omega) (fun j hj hjp => by
            by_cases e : j = i
            · rw [e] at hjp ⊢; omega
            · exact h3 j (by omega) hjp) (fun j hj hjp => by
            by_cases e : j = i
            · rw [e] at hjp ⊢; omega
            · exact h4 j (by omega) hjp) (by
            rcases h5 with z | ⟨j, j1, j2, j3⟩
            · exact Or.inl z
            · exact Or.inr ⟨j, by omega, j2, j3⟩) (by
            rcases h6 with z | ⟨j, j1, j2, j3⟩
            · exact Or.inl z
            · exact Or.inr ⟨j, by omega, j2, j3⟩)
        rw [ecnt] at hrec
        by_cases c2 : r i ≤ lo
        · simp (disch := omega) only [↓bd_e, bq_e, bn_e, grd_e, I_add, I_sub, I_mul, I_neg, isZ0, isZ1, isZ_tf, tf_z, tf_le, I_lit, I_inB, I_tcN, I_lt, I_le, I_eq, ↓reduceIte, not_true_eq_false, not_false_eq_true, nz, hi0, hp0, c2, Int.add_assoc]
          exact hrec
        · have c3 : (hi ≤ r i) = True := eq_true (by omega)
          simp (disch := omega) only [↓bd_e, bq_e, bn_e, grd_e, I_add, I_sub, I_mul, I_neg, isZ0, isZ1, isZ_tf, tf_z, tf_le, I_lit, I_inB, I_tcN, I_lt, I_le, I_eq, ↓reduceIte, not_true_eq_false, not_false_eq_true, nz, hi0, hp0, c2, c3, Int.add_assoc]
          exact hrec
theorem depthOf_e (hS : MS o S) (hg : g < 6) (hB : PB n (pr S g) (pd S g) (py S g)) {p : Nat} (hp : p < n) : F_X6_depthOf o (I (g : Int)) (I (p : Int)) = some (I (dep (pr S g) p : Int)) := by
  have hn10 := hB.1
  have hb := hB.2.2.2.2 p hp
  have hp0 : ∀ k : Nat, k < 10 → F_X6_pointOf o (I (g : Int)) (I (k : Int)) (I 0) = some (I (pr S g k)) := fun k hk => pt0 hS hg hk
  have := depthOf_loop hS hg hB.1 rfl hB.2.1 (fun k hk => (hB.2.2.2.2 k hk).1) (fun v => some v) hp FU 0 (-1000000) 1000000 (by unfold FU; omega) (by omega) (fun j hj => by omega) (fun j hj => by omega) (Or.inl rfl) (Or.inl rfl)
  unfold F_X6_depthOf
  simp (disch := omega) only [↓bd_e, bq_e, bn_e, grd_e, I_add, I_sub, I_mul, I_neg, isZ0, isZ1, isZ_tf, tf_z, tf_le, I_lit, I_inB, I_tcN, I_lt, I_le, I_eq, ↓reduceIte, not_true_eq_false, not_false_eq_true, nz, hp0]
  exact this
theorem mdepth_loop (hS : MS o S) (hg : g < 6) (hn : S (38 * (g : Int) + 7) = (n : Int)) (hB : PB n (pr S g) (pd S g) (py S g)) (kk : Int32 → Option Int32) : ∀ (fuel i : Nat), n < i + fuel → i ≤ n → LX6_depth_4 kk o (I (g : Int)) fuel (I (mx (fun k => (dep (pr S g) k : Int)) i)) (I (i : Int)) = kk (I (mx (fun k => (dep (pr S g) k : Int)) n)) := by
  have hn10 := hB.1
  have h7 := get7 hS hg hn
  have hdo : ∀ k : Nat, k < n → F_X6_depthOf o (I (g : Int)) (I (k : Int)) = some (I (dep (pr S g) k : Int)) := fun k hk => depthOf_e hS hg hB hk
  intro fuel
  induction fuel with
  | zero => intro i h1 h2; omega
  | succ fuel ih =>
    intro i h1 h2
    rw [LX6_depth_4.eq_2]
    have hm := mx_rg (f := fun k => (dep (pr S g) k : Int)) (n := i) (M := 11) (by omega) (fun k hk => by have := dep_le (r := pr S g) (k := k); omega)
    by_cases hi : (n : Int) ≤ (i : Int)
    · have : i = n := by omega
      subst this
      simp (disch := omega) only [↓bd_e, bq_e, bn_e, grd_e, I_add, I_sub, I_mul, I_neg, isZ0, isZ1, isZ_tf, tf_z, tf_le, I_lit, I_inB, I_tcN, I_lt, I_le, I_eq, ↓reduceIte, not_true_eq_false, not_false_eq_true, nz, h7, hi]
    · have hb := dep_le (r := pr S g) (k := i)
      have hrec := ih (i + 1) (by omega) (by omega)
      have e2 : mx (fun k => (dep (pr S g) k : Int)) (i + 1) = max (mx (fun k => (dep (pr S g) k : Int)) i) (dep (pr S g) i : Int) := rfl
      rw [e2] at hrec
      by_cases hc : (dep (pr S g) i : Int) ≤ mx (fun k => (dep (pr S g) k : Int)) i
      · rw [Int.max_eq_left hc] at hrec
        simp (disch := omega) only [↓bd_e, bq_e, bn_e, grd_e, I_add, I_sub, I_mul, I_neg, isZ0, isZ1, isZ_tf, tf_z, tf_le, I_lit, I_inB, I_tcN, I_lt, I_le, I_eq, ↓reduceIte, not_true_eq_false, not_false_eq_true, nz, h7, hi, hdo, hc]
        exact hrec
      · rw [Int.max_eq_right (by omega)] at hrec
        simp (disch := omega) only [↓bd_e, bq_e, bn_e, grd_e, I_add, I_sub, I_mul, I_neg, isZ0, isZ1, isZ_tf, tf_z, tf_le, I_lit, I_inB, I_tcN, I_lt, I_le, I_eq, ↓reduceIte, not_true_eq_false, not_false_eq_true, nz, h7, hi, hdo, hc]
        exact hrec
theorem mdepth_e (hS : MS o S) (hg : g < 6) (hn : S (38 * (g : Int) + 7) = (n : Int)) (hB : PB n (pr S g) (pd S g) (py S g)) : F_X6_depth o (I (g : Int)) = some (I (mx (fun k => (dep (pr S g) k : Int)) n)) := by
  unfold F_X6_depth
  simp only [↓bd_e, bq_e, bn_e, grd_e, I_add, I_sub, I_mul, I_neg, isZ0, isZ1, isZ_tf, tf_z, tf_le, I_lit, I_inB, I_tcN, I_lt, I_le, I_eq, ↓reduceIte, not_true_eq_false, not_false_eq_true, nz]
  exact mdepth_loop hS hg hn hB (fun v => some v) FU 0 (by have := hB.1; unfold FU; omega) (by omega)
theorem rank_loop (hS : MS o S) (hg : g < 6) (hn : S (38 * (g : Int) + 7) = (n : Int)) (hB : PB n (pr S g) (pd S g) (py S g)) (kk : Int32 → Option Int32) {p : Nat} (hp : p < n) : ∀ (fuel i : Nat), n < i + fuel → i ≤ n → LX6_ranked_23 kk o (I (g : Int)) (I (p : Int)) fuel (I (rank (pr S g) i p : Int)) (I (i : Int)) = kk (I (rank (pr S g) n p : Int)) := by
  have hn10 := hB.1
  have h7 := get7 hS hg hn
  have hp0 : ∀ k : Nat, k < 10 → F_X6_pointOf o (I (g : Int)) (I (k : Int)) (I 0) = some (I (pr S g k)) := fun k hk => pt0 hS hg hk
  intro fuel
  induction fuel with
  | zero => intro i h1 h2; omega
  | succ fuel ih =>
    intro i h1 h2
    rw [LX6_ranked_23.eq_2]
    have hcl : rank (pr S g) i p ≤ i := cnt_le _ i
    by_cases hi : (n : Int) ≤ (i : Int)
    · have : i = n := by omega
      subst this
      simp (disch := omega) only [↓bd_e, bq_e, bn_e, grd_e, I_add, I_sub, I_mul, I_neg, isZ0, isZ1, isZ_tf, tf_z, tf_le, I_lit, I_inB, I_tcN, I_lt, I_le, I_eq, ↓reduceIte, not_true_eq_false, not_false_eq_true, nz, h7, hi]
    · have hb1 := (hB.2.2.2.2 p hp).1
      have hb2 := (hB.2.2.2.2 i (by omega)).1
      have hrec := ih (i + 1) (by omega) (by omega)
      have e2 : (rank (pr S g) (i + 1) p : Int) = (rank (pr S g) i p : Int) + (if pr S g i < pr S g p then 1 else 0) := by
        show ((rank (pr S g) i p + (if decide (pr S g i < pr S g p) = true then 1 else 0) : Nat) : Int) = _
        by_cases hc : pr S g i < pr S g p
        · rw [if_pos hc, if_pos (decide_eq_true hc)]; rfl
        · rw [if_neg hc, if_neg (by simpa using hc)]; rfl
      rw [e2] at hrec
      by_cases hc : pr S g p ≤ pr S g i
      · rw [if_neg (by omega)] at hrec
        simp (disch := omega) only [↓bd_e, bq_e, bn_e, grd_e, I_add, I_sub, I_mul, I_neg, isZ0, isZ1, isZ_tf, tf_z, tf_le, I_lit, I_inB, I_tcN, I_lt, I_le, I_eq, ↓reduceIte, not_true_eq_false, not_false_eq_true, nz, h7, hi, hp0, hc]
        exact hrec
      · rw [if_pos (by omega)] at hrec
        simp (disch := omega) only [↓bd_e, bq_e, bn_e, grd_e, I_add, I_sub, I_mul, I_neg, isZ0, isZ1, isZ_tf, tf_z, tf_le, I_lit, I_inB, I_tcN, I_lt, I_le, I_eq, ↓reduceIte, not_true_eq_false, not_false_eq_true, nz, h7, hi, hp0, hc]
        exact hrec
theorem ranked_loop (hS : MS o S) (hg : g < 6) (hn : S (38 * (g : Int) + 7) = (n : Int)) (hB : PB n (pr S g) (pd S g) (py S g)) (kk : Int32 → Option Int32) {p : Int} (hp0 : -1000 ≤ p) (hp : p < 2147483648) : ∀ (fuel i : Nat) (f : Int), n < i + fuel → i ≤ n → IX (fun k => (rank (pr S g) n k : Int)) i p f → ∃ f', IX (fun k => (rank (pr S g) n k : Int)) n p f' ∧ LX6_ranked_5 kk o (I (g : Int)) (I p) fuel (I f) (I (i : Int)) = kk (I f') := by
  have hn10 := hB.1
  have h7 := get7 hS hg hn
  intro fuel
  induction fuel with
  | zero => intro i f h1 h2; omega
  | succ fuel ih =>
    intro i f h1 h2 h3
    rw [LX6_ranked_5.eq_2]
    by_cases hi : (n : Int) ≤ (i : Int)
    · have : i = n := by omega
      subst this
      refine ⟨f, h3, ?_⟩
      simp (disch := omega) only [↓bd_e, bq_e, bn_e, grd_e, I_add, I_sub, I_mul, I_neg, isZ0, isZ1, isZ_tf, tf_z, tf_le, I_lit, I_inB, I_tcN, I_lt, I_le, I_eq, ↓reduceIte, not_true_eq_false, not_false_eq_true, nz, h7, hi]
    · have hin := rank_loop hS hg hn hB (p := i)
      have hrl := rank_lt (r := pr S g) (n := n) (a := i) (by omega)
      have h00 : ∀ k, LX6_ranked_23 k o (I (g : Int)) (I (i : Int)) FU (I 0) (I 0) = k (I (rank (pr S g) n i : Int)) := fun k => hin k (by omega) FU 0 (by unfold FU; omega) (by omega)
      by_cases he : (rank (pr S g) n i : Int) = p
      · obtain ⟨f', h4, e⟩ := ih (i + 1) (i : Int) (by omega) (by omega) (Or.inr ⟨i, by omega, rfl, he⟩)
        refine ⟨f', h4, ?_⟩
        simp (disch := omega) only [↓bd_e, bq_e, bn_e, grd_e, I_add, I_sub, I_mul, I_neg, isZ0, isZ1, isZ_tf, tf_z, tf_le, I_lit, I_inB, I_tcN, I_lt, I_le, I_eq, ↓reduceIte, not_true_eq_false, not_false_eq_true, nz, h7, hi, h00, he]
        exact e
      · obtain ⟨f', h4, e⟩ := ih (i + 1) f (by omega) (by omega) (by
          rcases h3 with ⟨g1, g2⟩ | ⟨k, g1, g2, g3⟩
          · refine Or.inl ⟨g1, fun j hj => ?_⟩
            by_cases e : j = i
            · rw [e]; exact he
            · exact g2 j (by omega)
          · exact Or.inr ⟨k, by omega, g2, g3⟩)
        refine ⟨f', h4, ?_⟩
        simp (disch := omega) only [↓bd_e, bq_e, bn_e, grd_e, I_add, I_sub, I_mul, I_neg, isZ0, isZ1, isZ_tf, tf_z, tf_le, I_lit, I_inB, I_tcN, I_lt, I_le, I_eq, ↓reduceIte, not_true_eq_false, not_false_eq_true, nz, h7, hi, h00, he]
        exact e
theorem ranked_in (hS : MS o S) (hg : g < 6) (hn : S (38 * (g : Int) + 7) = (n : Int)) (hB : PB n (pr S g) (pd S g) (py S g)) (hj : Sj (pr S g) n) {p : Nat} (hp : p < n) : F_X6_ranked o (I (g : Int)) (I (p : Int)) = some (I (oi (pr S g) n p : Int)) := by
  have hn10 := hB.1
  obtain ⟨f, hf, e⟩ := ranked_loop hS hg hn hB (fun v => some v) (p := (p : Int)) (by omega) (by omega) FU 0 (-1) (by unfold FU; omega) (by omega) (Or.inl ⟨rfl, fun i hi => by omega⟩)
  have ho := oi_sp hj hp
  have : f = (oi (pr S g) n p : Int) := by
    rcases hf with ⟨h1, h2⟩ | ⟨k, h1, h2, h3⟩
    · exact absurd (congrArg Int.ofNat ho.2) (h2 _ ho.1)
    · rw [h2]
      have h3 : (rank (pr S g) n k : Int) = (p : Int) := h3
      have := oi_u (p := p) hB.2.1 h1 (by omega)
      omega
  subst this
  unfold F_X6_ranked
  simp only [↓bd_e, bq_e, bn_e, grd_e, I_add, I_sub, I_mul, I_neg, isZ0, isZ1, isZ_tf, tf_z, tf_le, I_lit, I_inB, I_tcN, I_lt, I_le, I_eq, ↓reduceIte, not_true_eq_false, not_false_eq_true, nz]
  exact e
theorem ranked_out (hS : MS o S) (hg : g < 6) (hn : S (38 * (g : Int) + 7) = (n : Int)) (hB : PB n (pr S g) (pd S g) (py S g)) {p : Int} (hp : (n : Int) ≤ p) (hp2 : p < 2147483648) : F_X6_ranked o (I (g : Int)) (I p) = some (I (-1)) := by
  have hn10 := hB.1
  obtain ⟨f, hf, e⟩ := ranked_loop hS hg hn hB (fun v => some v) (p := p) (by omega) (by omega) FU 0 (-1) (by unfold FU; omega) (by omega) (Or.inl ⟨rfl, fun i hi => by omega⟩)
  have : f = -1 := by
    rcases hf with ⟨h1, h2⟩ | ⟨k, h1, h2, h3⟩
    · exact h1
    · have := rank_lt (r := pr S g) h1
      have h3 : (rank (pr S g) n k : Int) = p := h3
      omega
  subst this
  unfold F_X6_ranked
  simp only [↓bd_e, bq_e, bn_e, grd_e, I_add, I_sub, I_mul, I_neg, isZ0, isZ1, isZ_tf, tf_z, tf_le, I_lit, I_inB, I_tcN, I_lt, I_le, I_eq, ↓reduceIte, not_true_eq_false, not_false_eq_true, nz]
  exact e
end
