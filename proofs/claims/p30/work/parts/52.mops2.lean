/-! the model's changes: a new thermometer, a year, one broken -/
section
variable {o : OM} {S : Int → Int} {g Y : Nat}
theorem grow_rg {S : Int → Int} {g Y : Nat} (hB : SB S Y) (h : GB S g Y) : 0 ≤ S (235 + S (38 * (g : Int) + 2)) / (S (38 * (g : Int) + 3) + 1) ∧ S (235 + S (38 * (g : Int) + 2)) / (S (38 * (g : Int) + 3) + 1) ≤ 60 ∧ 0 ≤ S (235 + S (38 * (g : Int) + 2)) ∧ S (235 + S (38 * (g : Int) + 2)) ≤ 60 := by
  obtain ⟨a1, a2, a3, a4, a5, a6, a7, -⟩ := h
  have hk := hB.2.2.2.2.1 (S (38 * (g : Int) + 2)) (by omega) (by omega)
  rw [if_pos (by omega)] at hk
  have h1 : 0 ≤ S (235 + S (38 * (g : Int) + 2)) / (S (38 * (g : Int) + 3) + 1) := Int.ediv_nonneg (by omega) (by omega)
  have h2 : S (235 + S (38 * (g : Int) + 2)) / (S (38 * (g : Int) + 3) + 1) ≤ S (235 + S (38 * (g : Int) + 2)) := Int.ediv_le_self _ (by omega)
  omega
end
