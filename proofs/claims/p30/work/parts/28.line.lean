/-! correction: the two points around a reading -/
theorem mul_rg {p q P Q : Int} (h1 : -P ≤ p) (h2 : p ≤ P) (h3 : -Q ≤ q) (h4 : q ≤ Q) : -(P * Q) ≤ p * q ∧ p * q ≤ P * Q := by
  have hP : 0 ≤ P := by omega
  have hQ : 0 ≤ Q := by omega
  have a1 : 0 ≤ (P - p) * (Q - q) := Int.mul_nonneg (by omega) (by omega)
  have a2 : 0 ≤ (P + p) * (Q + q) := Int.mul_nonneg (by omega) (by omega)
  have a3 : 0 ≤ (P - p) * (Q + q) := Int.mul_nonneg (by omega) (by omega)
  have a4 : 0 ≤ (P + p) * (Q - q) := Int.mul_nonneg (by omega) (by omega)
  simp only [Int.sub_mul, Int.add_mul, Int.mul_sub, Int.mul_add] at a1 a2 a3 a4
  omega
theorem ediv_rg {a b : Int} (hb : 0 < b) {M : Int} (h1 : -M ≤ a) (h2 : a ≤ M) : -M ≤ a / b ∧ a / b ≤ M := by
  have hM : 0 ≤ M := by omega
  constructor
  · apply (Int.le_ediv_iff_mul_le hb).mpr
    have : M * 1 ≤ M * b := Int.mul_le_mul_of_nonneg_left (by omega) hM
    rw [Int.neg_mul]
    omega
  · apply Int.le_of_lt_add_one
    apply (Int.ediv_lt_iff_lt_mul hb).mpr
    have : M * 1 ≤ M * b := Int.mul_le_mul_of_nonneg_left (by omega) hM
    rw [Int.add_mul]
    omega
def Pair (r : Nat → Int) (n : Nat) (x : Int) (a b : Nat) : Prop :=
  a < n ∧ b < n ∧ r a < r b ∧ (∀ i, i < n → ¬ (r a < r i ∧ r i < r b)) ∧ (r a ≤ x ∨ ∀ i, i < n → r a ≤ r i) ∧ (x < r b ∨ ∀ i, i < n → r i ≤ r b)
theorem Pair_lt {r : Nat → Int} {n : Nat} {x : Int} {a b a' b' : Nat} (h : Pair r n x a b) (h' : Pair r n x a' b') : ¬ r a < r a' := by
  obtain ⟨h1, h2, h3, h4, h5, h6⟩ := h
  obtain ⟨g1, g2, g3, g4, g5, g6⟩ := h'
  intro hl
  have e1 := h4 a' g1
  have e2 : r a' ≤ x := by
    rcases g5 with z | z
    · exact z
    · have := z a h1; omega
  have e3 : x < r b := by
    rcases h6 with z | z
    · exact z
    · have := z b' g2; omega
  omega
theorem Pair_u {r : Nat → Int} {n : Nat} {x : Int} {a b a' b' : Nat} (hd : Ds r n) (h : Pair r n x a b) (h' : Pair r n x a' b') : a = a' ∧ b = b' := by
  have e1 := Pair_lt h h'
  have e2 := Pair_lt h' h
  have ha : a = a' := hd a a' h.1 h'.1 (by omega)
  subst ha
  refine ⟨rfl, hd b b' h.2.1 h'.2.1 ?_⟩
  have f1 := h.2.2.2.1 b' h'.2.1
  have f2 := h'.2.2.2.1 b h.2.1
  have f3 := h.2.2.1
  have f4 := h'.2.2.1
  omega
def lin (r d : Nat → Int) (x : Int) (a b : Nat) : Int := d a + (d b - d a) * (x - r a) / (r b - r a)
def Cor (r d : Nat → Int) (n : Nat) (x v : Int) : Prop := ∃ a b, Pair r n x a b ∧ v = lin r d x a b
theorem Cor_u {r d : Nat → Int} {n : Nat} {x v v' : Int} (hd : Ds r n) (h : Cor r d n x v) (h' : Cor r d n x v') : v = v' := by
  obtain ⟨a, b, h1, rfl⟩ := h
  obtain ⟨a', b', h2, rfl⟩ := h'
  obtain ⟨rfl, rfl⟩ := Pair_u hd h1 h2
  rfl
theorem lin_rg {n : Nat} {r d y : Nat → Int} (hB : PB n r d y) {x : Int} (hx1 : -200000 ≤ x) (hx2 : x ≤ 200000) {a b : Nat} (ha : a < n) (hb : b < n) (hab : r a < r b) : (-570000000 ≤ (d b - d a) * (x - r a) ∧ (d b - d a) * (x - r a) ≤ 570000000) ∧ (-600000000 ≤ lin r d x a b ∧ lin r d x a b ≤ 600000000) := by
  obtain ⟨-, -, -, -, hk⟩ := hB
  have h1 := hk a ha
  have h2 := hk b hb
  have h3 := mul_rg (p := d b - d a) (q := x - r a) (P := 1900) (Q := 300000) (by omega) (by omega) (by omega) (by omega)
  refine ⟨by omega, ?_⟩
  have h4 := ediv_rg (a := (d b - d a) * (x - r a)) (b := r b - r a) (by omega) (M := 570000000) (by omega) (by omega)
  unfold lin
  omega
theorem Cor_rg {n : Nat} {r d y : Nat → Int} (hB : PB n r d y) {x v : Int} (hx1 : -200000 ≤ x) (hx2 : x ≤ 200000) (h : Cor r d n x v) : -600000000 ≤ v ∧ v ≤ 600000000 := by
  obtain ⟨a, b, h1, rfl⟩ := h
  exact (lin_rg hB hx1 hx2 h1.1 h1.2.1 h1.2.2.1).2
theorem rank_adj {r : Nat → Int} {n a b : Nat} (ha : a < n) (hb : b < n) (h : rank r n b = rank r n a + 1) : r a < r b ∧ ∀ i, i < n → ¬ (r a < r i ∧ r i < r b) := by
  constructor
  · apply Classical.byContradiction
    intro hl
    have : rank r n b ≤ rank r n a := by
      apply cnt_mono
      intro i hi hp
      simp at hp ⊢
      omega
    omega
  · intro i hi hz
    have h1 := rank_mono (r := r) (n := n) (a := a) (b := i) ha hz.1
    have h2 := rank_mono (r := r) (n := n) (a := i) (b := b) hi hz.2
    omega
theorem rank_low {r : Nat → Int} {n a : Nat} (h : rank r n a = 0) : ∀ i, i < n → r a ≤ r i := by
  intro i hi
  apply Classical.byContradiction
  intro hl
  have := rank_mono (r := r) (n := n) (a := i) (b := a) hi (by omega)
  omega
theorem rank_top {r : Nat → Int} {n a : Nat} (ha : a < n) (h : rank r n a + 1 = n) : ∀ i, i < n → r i ≤ r a := by
  intro i hi
  apply Classical.byContradiction
  intro hl
  have h1 := rank_mono (r := r) (n := n) (a := a) (b := i) ha (by omega)
  have h2 := rank_lt (r := r) hi
  omega
/-- the point at a place in the order -/
def fnd (p : Nat → Bool) : Nat → Nat
  | 0 => 0
  | n + 1 => if p n = true then n else fnd p n
theorem fnd_sp {p : Nat → Bool} {n j : Nat} (hj : j < n) (hp : p j = true) : fnd p n < n ∧ p (fnd p n) = true := by
  induction n with
  | zero => omega
  | succ n ih =>
    have e : fnd p (n + 1) = if p n = true then n else fnd p n := rfl
    rw [e]
    by_cases h : p n = true
    · rw [if_pos h]
      exact ⟨by omega, h⟩
    · rw [if_neg h]
      have hjn : j ≠ n := fun z => h (z ▸ hp)
      have := ih (by omega)
      exact ⟨by omega, this.2⟩
def oi (r : Nat → Int) (n p : Nat) : Nat := fnd (fun k => decide (rank r n k = p)) n
def Sj (r : Nat → Int) (n : Nat) : Prop := ∀ p, p < n → ∃ j, j < n ∧ rank r n j = p
theorem oi_sp {r : Nat → Int} {n p : Nat} (hs : Sj r n) (hp : p < n) : oi r n p < n ∧ rank r n (oi r n p) = p := by
  obtain ⟨j, h1, h2⟩ := hs p hp
  have := fnd_sp (p := fun k => decide (rank r n k = p)) h1 (decide_eq_true h2)
  exact ⟨this.1, of_decide_eq_true this.2⟩
theorem oi_u {r : Nat → Int} {n p j : Nat} (hd : Ds r n) (hj : j < n) (h : rank r n j = p) : j = oi r n p := by
  have := fnd_sp (p := fun k => decide (rank r n k = p)) hj (decide_eq_true h)
  exact rank_inj hd hj this.1 (by rw [h]; exact (of_decide_eq_true this.2).symm)
theorem PA.sj {m : Nat → Nat → Int32} {n : Nat} {r d y : Nat → Int} (h : PA m n r d y) : Sj r n := fun p hp => by
  obtain ⟨j, h1, -, h2⟩ := (h p hp).2.2.2.2.2.2
  exact ⟨j, h1, h2⟩
theorem PA.oi {m : Nat → Nat → Int32} {n : Nat} {r d y : Nat → Int} (h : PA m n r d y) (hd : Ds r n) {p : Nat} (hp : p < n) : m 13 p = I (oi r n p : Int) := by
  obtain ⟨j, h1, h2, h3⟩ := (h p hp).2.2.2.2.2.2
  rw [h2, oi_u hd h1 h3]
def mx (f : Nat → Int) : Nat → Int
  | 0 => 0
  | n + 1 => max (mx f n) (f n)
theorem mx_rg {f : Nat → Int} {n : Nat} {M : Int} (hM : 0 ≤ M) (h : ∀ k, k < n → f k ≤ M) : 0 ≤ mx f n ∧ mx f n ≤ M := by
  induction n with
  | zero => exact ⟨Int.le_refl 0, hM⟩
  | succ n ih =>
    have h1 := ih (fun k hk => h k (by omega))
    have h2 := h n (by omega)
    show 0 ≤ max (mx f n) (f n) ∧ max (mx f n) (f n) ≤ M
    omega
def gap (r d : Nat → Int) (n p : Nat) : Int := if p = 0 then 0 else d (oi r n p) - d (oi r n (p - 1))
