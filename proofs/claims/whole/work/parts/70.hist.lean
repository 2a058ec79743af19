/-! the ring of saved states -/
theorem mod6 {a : Int} (h1 : 0 ≤ a) (h2 : a < 2147483648) : I a - I a / I 6 * I 6 = I (a % 6) := by
  rw [I_div (by omega) h2 (by omega) (by omega), I_mul, I_sub, Int.tdiv_eq_ediv_of_nonneg h1]
  congr 1
  omega
/-- the history: V holds what is saved, oldest first -/
def HC (o : OM) (m b : Nat) (V : Nat → Int → Int) : Prop := m ≤ 6 ∧ b < 6 ∧ rd o 14 0 0 = I (m : Int) ∧ rd o 14 0 1 = I (b : Int) ∧ ∀ i : Nat, i < m → CS o ((b + i) % 6 + 2) (V i)
theorem push_slot {o : OM} {m b : Nat} {V : Nat → Int → Int} (h : HC o m b V) : (rd o 14 0 1 + rd o 14 0 0) - (rd o 14 0 1 + rd o 14 0 0) / I 6 * I 6 = I (((b + m) % 6 : Nat) : Int) := by
  obtain ⟨h1, h2, h3, h4, -⟩ := h
  rw [h3, h4, I_add, mod6 (by omega) (by omega)]
  congr 1
