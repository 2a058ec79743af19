/-! the rows of the model: reading, writing, copying -/
def X (o : OM) (k : Nat) (a : Int) : Int32 := rd o k 0 (I a).toNatClampNeg
theorem X_d (o : OM) (k : Nat) (a : Int) : rd o k 0 (I a).toNatClampNeg = X o k a := rfl
theorem X_eq (o : OM) {k : Nat} {a b : Int} (v : Int32) (h1 : 0 ≤ a) (h2 : a < 2147483648) (h3 : 0 ≤ b) (h4 : b < 2147483648) : X (wr o k 0 (I b).toNatClampNeg v) k a = if a = b then v else X o k a := by
  unfold X
  rw [I_tc h1 h2, I_tc h3 h4]
  by_cases h : a = b
  · rw [if_pos h, h, rd_wr]
  · rw [if_neg h, rd_wj _ _ (by omega)]
theorem X_ne (o : OM) {k k' j : Nat} {a : Int} (v : Int32) (h : k' ≠ k) : X (wr o k 0 j v) k' a = X o k' a := rd_wk o v (Or.inl h)
/-- nothing but one row is changed -/
def Fk (o o1 : OM) (k : Nat) : Prop := (∀ k' i, ¬ (k' = k ∧ i = 0) → o1.1 k' i = o.1 k' i) ∧ o1.2 = o.2
theorem Fk.rf (o : OM) (k : Nat) : Fk o o k := ⟨fun _ _ _ => rfl, rfl⟩
theorem Fk.tr {o o1 o2 : OM} {k : Nat} (h : Fk o o1 k) (h' : Fk o1 o2 k) : Fk o o2 k := ⟨fun k' i hk => (h'.1 k' i hk).trans (h.1 k' i hk), h'.2.trans h.2⟩
theorem Fk.wr {o o1 : OM} {k j : Nat} {v : Int32} (h : Fk o o1 k) : Fk o (wr o1 k 0 j v) k := ⟨fun k' i hk => (wr_ne o1 v (by omega)).trans (h.1 k' i hk), h.2⟩
theorem Fk.rd {o o1 : OM} {k k' i j : Nat} (h : Fk o o1 k) (hk : k' ≠ k ∨ i ≠ 0) : rd o1 k' i j = rd o k' i j := by
  show o1.1 k' i j = _
  rw [h.1 k' i (by omega)]
  rfl
theorem Fk.X {o o1 : OM} {k k' : Nat} {a : Int} (h : Fk o o1 k) (hk : k' ≠ k) : X o1 k' a = X o k' a := h.rd (Or.inl hk)
theorem sh21 {P Q : Prop} [Decidable P] [Decidable Q] {α : Type} {a b : α} (h : P ↔ Q) : (if P then a else b) = (if Q then a else b) := by
  by_cases hp : P
  · rw [if_pos hp, if_pos (h.mp hp)]
  · rw [if_neg hp, if_neg (fun z => hp (h.mpr z))]
/-- the model's store, as rows -/
def MA (o : OM) (k : Nat) (b : Int) (S : Int → Int) : Prop := ∀ a : Int, 0 ≤ a → a < 244 → X o k (b + a) = I (S a)
theorem MS_MA {o : OM} {S : Int → Int} : MS o S ↔ MA o 20 0 S := by
  constructor
  · intro h a h1 h2
    rw [Int.zero_add]
    exact h a h1 h2
  · intro h a h1 h2
    have := h a h1 h2
    rw [Int.zero_add] at this
    exact this
/-- what is saved, oldest first -/
def MV (o : OM) (m : Nat) (V : Nat → Int → Int) : Prop := rd o 19 0 3 = I (m : Int) ∧ ∀ i : Nat, i < m → MA o 21 (244 * (i : Int)) (V i)
