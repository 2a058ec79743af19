/-! the small methods -/
def tf (p : Prop) [Decidable p] : Int32 := if p then I 1 else I 0
theorem tf_z (p : Prop) [Decidable p] : (tf p = I 0) = ¬ p := by
  unfold tf
  split
  · simp [show (I 1 = I 0) = False from by decide, *]
  · simp [*]
theorem tf_t {p : Prop} [Decidable p] (h : p) : tf p = I 1 := if_pos h
theorem tf_f {p : Prop} [Decidable p] (h : ¬ p) : tf p = I 0 := if_neg h
theorem isZ_tf (p : Prop) [Decidable p] : isZ (tf p) = true := by
  unfold tf
  split <;> decide
theorem tf_le (p : Prop) [Decidable p] : (tf p ≤ I 0) = ¬ p := by
  unfold tf
  split
  · simp [show (I 1 ≤ I 0) = False from by decide, *]
  · simp [show (I 0 ≤ I 0) = True from by decide, *]
theorem tf_c {p q : Prop} [Decidable p] [Decidable q] (h : p ↔ q) : tf p = tf q := by
  unfold tf
  by_cases hp : p
  · rw [if_pos hp, if_pos (h.mp hp)]
  · rw [if_neg hp, if_neg (fun z => hp (h.mpr z))]
theorem within_e (o : OM) (v a b : Int32) : F_X5_isWithin o v a b = some (tf (¬ v < a ∧ ¬ b < v)) := by
  unfold F_X5_isWithin tf
  simp only [bd_e]
  by_cases h1 : v < a
  · simp only [if_pos h1, if_neg (fun z : ¬ v < a ∧ ¬ b < v => z.1 h1)]; rfl
  · by_cases h2 : b < v
    · simp only [if_neg h1, if_pos h2, if_neg (fun z : ¬ v < a ∧ ¬ b < v => z.2 h2)]; rfl
    · simp only [if_neg h1, if_neg h2, if_pos (And.intro h1 h2)]; rfl
theorem max_e (o : OM) {a b : Int} (h1 : -2147483648 ≤ a) (h2 : a < 2147483648) (h3 : -2147483648 ≤ b) (h4 : b < 2147483648) : F_J9_max_7cf53 o (I a) (I b) = some (I (max a b)) := by
  unfold F_J9_max_7cf53
  simp only [bd_e, I_lt h1 h2 h3 h4]
  split
  · rw [Int.max_eq_right (by omega)]
  · rw [Int.max_eq_left (by omega)]
theorem abs_e (o : OM) {a : Int} (h1 : -2147483648 < a) (h2 : a < 2147483648) : F_J9_abs_0f7a4 o (I a) = some (I (if a < 0 then -a else a)) := by
  unfold F_J9_abs_0f7a4
  simp only [bd_e, show (0 : Int32) = I 0 from rfl, I_neg]
  simp (disch := omega) only [I_le]
  by_cases h : 0 ≤ a
  · rw [if_pos h, if_neg (by omega)]
  · rw [if_neg h, if_pos (by omega)]
theorem tdiv_rg {a b : Int} (hb : 0 < b) : (0 ≤ a → 0 ≤ a.tdiv b * b ∧ a.tdiv b * b ≤ a) ∧ (a < 0 → a.tdiv b * b ≤ 0 ∧ a ≤ a.tdiv b * b) := by
  have h0 : a.tmod b + a.tdiv b * b = a := Int.tmod_add_tdiv_mul a b
  constructor
  · intro h
    have h1 := Int.tmod_nonneg b h
    have h2 : 0 ≤ a.tdiv b := Int.tdiv_nonneg h (by omega)
    have h3 := Int.mul_nonneg h2 (by omega : 0 ≤ b)
    omega
  · intro h
    have e1 : (-a).tmod b = -(a.tmod b) := Int.neg_tmod a b
    have e2 : (-a).tdiv b = -(a.tdiv b) := Int.neg_tdiv a b
    have h1 := Int.tmod_nonneg (a := -a) b (by omega)
    have h2 : 0 ≤ (-a).tdiv b := Int.tdiv_nonneg (by omega) (by omega)
    have h3 := Int.mul_nonneg h2 (by omega : 0 ≤ b)
    rw [e2, Int.neg_mul] at h3
    omega
theorem xor_sg (x y : Int32) (hy : 0 ≤ y) : (0 ≤ x ^^^ y) = (0 ≤ x) := by
  have k : ∀ z : Int32, (0 ≤ z) = (z.toBitVec.msb = false) := by
    intro z
    rw [Int32.le_iff_toInt_le]
    show ((0 : Int32).toInt ≤ z.toBitVec.toInt) = _
    rw [show (0 : Int32).toInt = 0 from rfl, BitVec.msb_eq_toInt]
    simp
  rw [k] at hy
  rw [k, k, Int32.toBitVec_xor, BitVec.msb_xor, hy, Bool.xor_false]
theorem floorDiv_e (o : OM) {a b : Int} (h1 : -2147483648 ≤ a) (h2 : a < 2147483648) (h3 : 0 < b) (h4 : b < 2147483648) : F_J9_floorDiv_7cf53 o (I a) (I b) = some (I (a / b)) := by
  unfold F_J9_floorDiv_7cf53
  have z : (0 : Int32) = I 0 := rfl
  have e1 : (1 : Int32) = I 1 := rfl
  have hz : decide (¬ I b = 0) = true := by
    apply decide_eq_true
    rw [z, I_eq (by omega) h4 (by omega) (by omega)]
    omega
  have hr := tdiv_rg (a := a) h3
  have hb : 0 ≤ I b := by rw [z, I_le (by omega) (by omega) (by omega) h4]; omega
  have h0 : a.tmod b + a.tdiv b * b = a := Int.tmod_add_tdiv_mul a b
  rw [hz, grd_e]
  simp only [bd_e, I_div h1 h2 h3 h4, I_mul, xor_sg _ _ hb]
  rw [← fdiv_up h3 rfl]
  simp (disch := omega) only [z, e1, I_sub, I_le, I_eq]
  by_cases g : 0 ≤ a
  · rw [if_pos g, if_pos (by omega)]
  · rw [if_neg g]
    by_cases g2 : a.tdiv b * b = a
    · rw [if_pos g2, if_pos (by omega)]
    · rw [if_neg g2, if_neg (by omega)]
theorem nz {a : Int} [inst : Decidable (¬ a = 0)] (h : a ≠ 0) : @decide (¬ a = 0) inst = true := decide_eq_true h
