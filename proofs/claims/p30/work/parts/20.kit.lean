/-! whole numbers beside the numbers of the program -/
def I (z : Int) : Int32 := Int32.ofInt z
theorem I_add (a b : Int) : I a + I b = I (a + b) := (Int32.ofInt_add a b).symm
theorem I_sub (a b : Int) : I a - I b = I (a - b) := (Int32.ofInt_sub a b).symm
theorem I_mul (a b : Int) : I a * I b = I (a * b) := (Int32.ofInt_mul a b).symm
theorem I_neg (a : Int) : -I a = I (-a) := (Int32.ofInt_neg a).symm
theorem I_lit (n : Nat) : (@OfNat.ofNat Int32 n _ : Int32) = I (@OfNat.ofNat Int n _) := (Int32.ofInt_eq_ofNat (n := n)).symm
theorem I_nI (n : Nat) : nI n = I (n : Int) := (Int32.ofInt_eq_ofNat (n := n)).symm
theorem I_to {a : Int} (h1 : -2147483648 ≤ a) (h2 : a < 2147483648) : (I a).toInt = a := Int32.toInt_ofInt_of_le h1 h2
theorem I_toI (x : Int32) : I x.toInt = x := Int32.ofInt_toInt x
theorem toI_lo (x : Int32) : -2147483648 ≤ x.toInt := Int32.le_toInt x
theorem toI_hi (x : Int32) : x.toInt < 2147483648 := Int32.toInt_lt x
theorem I_lt {a b : Int} (h1 : -2147483648 ≤ a) (h2 : a < 2147483648) (h3 : -2147483648 ≤ b) (h4 : b < 2147483648) : (I a < I b) = (a < b) := by
  rw [Int32.lt_iff_toInt_lt, I_to h1 h2, I_to h3 h4]
theorem I_le {a b : Int} (h1 : -2147483648 ≤ a) (h2 : a < 2147483648) (h3 : -2147483648 ≤ b) (h4 : b < 2147483648) : (I a ≤ I b) = (a ≤ b) := by
  rw [Int32.le_iff_toInt_le, I_to h1 h2, I_to h3 h4]
theorem I_inj {a b : Int} (h1 : -2147483648 ≤ a) (h2 : a < 2147483648) (h3 : -2147483648 ≤ b) (h4 : b < 2147483648) (h : I a = I b) : a = b := by
  rw [← I_to h1 h2, ← I_to h3 h4, h]
theorem I_eq {a b : Int} (h1 : -2147483648 ≤ a) (h2 : a < 2147483648) (h3 : -2147483648 ≤ b) (h4 : b < 2147483648) : (I a = I b) = (a = b) :=
  propext ⟨I_inj h1 h2 h3 h4, fun h => by rw [h]⟩
theorem I_tc {a : Int} (h1 : 0 ≤ a) (h2 : a < 2147483648) : (I a).toNatClampNeg = a.toNat := by
  have := Int32.toNatClampNeg_ofInt_of_le (n := a) (by omega) h2
  exact this
theorem I_tcN {k : Nat} (h2 : k < 2147483648) : (I (k : Int)).toNatClampNeg = k := by
  rw [I_tc (by omega) (by omega)]
  omega
theorem I_inB {a : Int} {n : Nat} (h1 : 0 ≤ a) (h2 : a < (n : Int)) (h3 : a < 2147483648) : inB (I a) n = true := by
  unfold inB
  apply decide_eq_true
  rw [I_tc h1 h3, show (0 : Int32) = I 0 from rfl, I_lt (by omega) h3 (by omega) (by omega)]
  omega
theorem I_inC {a : Int} {n m : Nat} (h1 : 0 ≤ a) (h2 : a ≤ (n : Int)) (h4 : a ≤ (m : Int)) (h3 : a < 2147483648) : inC (I a) n m = true := by
  unfold inC
  have e : ¬ (I a < 0) := by rw [show (0 : Int32) = I 0 from rfl, I_lt (by omega) h3 (by omega) (by omega)]; omega
  rw [I_tc h1 h3, decide_eq_true e, decide_eq_true (by omega), decide_eq_true (by omega)]
  rfl
theorem I_div {a b : Int} (h1 : -2147483648 ≤ a) (h2 : a < 2147483648) (h3 : 0 < b) (h4 : b < 2147483648) : I a / I b = I (a.tdiv b) := by
  apply Int32.toInt_inj.mp
  have hb : I b ≠ -1 := by
    rw [show (-1 : Int32) = I (-1) from rfl]
    intro h
    have := I_inj (by omega) h4 (by omega) (by omega) h
    omega
  rw [Int32.toInt_div_of_ne_right _ _ hb, I_to h1 h2, I_to (by omega) h4]
  have g1 : -2147483648 ≤ a.tdiv b := by
    by_cases h : 0 ≤ a
    · have := Int.tdiv_nonneg h (by omega : 0 ≤ b)
      omega
    · have e : (-a).tdiv b = -(a.tdiv b) := Int.neg_tdiv a b
      have h5 : (-a).tdiv b ≤ -a := Int.tdiv_le_self b (by omega)
      omega
  have g2 : a.tdiv b < 2147483648 := by
    by_cases h : 0 ≤ a
    · have := Int.tdiv_le_self b h
      omega
    · have e : (-a).tdiv b = -(a.tdiv b) := Int.neg_tdiv a b
      have := Int.tdiv_nonneg (a := -a) (b := b) (by omega) (by omega)
      omega
  exact (I_to g1 g2).symm
theorem isZ0 : isZ (I 0) = true := by decide
theorem isZ1 : isZ (I 1) = true := by decide
theorem bd_e {α β : Type} (a : α) (k : α → β) : bd a k = k a := rfl
theorem bq_e {α γ : Type} (a : α) (k : α → Option γ) : bq (some a) k = k a := rfl
theorem bn_e {α β γ : Type} (a : α) (b : β) (k : α → β → Option γ) : bn (some (a, b)) k = k a b := rfl
theorem grd_e {α : Type} (k : Option α) : grd true k = k := rfl
/-! division downwards -/
theorem fdiv_up {a b q : Int} (hb : 0 < b) (hq : q = a.tdiv b) : (if q * b ≤ a then q else q - 1) = a / b := by
  have h0 : a.tmod b + q * b = a := by rw [hq]; exact Int.tmod_add_tdiv_mul a b
  have hm1 := Int.lt_tmod_of_pos a hb
  have hm2 := Int.tmod_lt_of_pos a hb
  symm
  by_cases h : q * b ≤ a
  · rw [if_pos h]
    apply (Int.ediv_eq_iff_of_pos hb).mpr
    omega
  · rw [if_neg h]
    apply (Int.ediv_eq_iff_of_pos hb).mpr
    rw [Int.sub_mul]
    omega
