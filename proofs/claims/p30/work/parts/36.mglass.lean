/-! one thermometer of the model: its looks -/
def gm (S : Int → Int) : Nat := (S 228).toNat
theorem SB.m {S : Int → Int} {Y : Nat} (h : SB S Y) : S 228 = (gm S : Int) ∧ gm S ≤ 6 := by
  have := h.1
  unfold gm
  omega
theorem SB.g {S : Int → Int} {Y g : Nat} (h : SB S Y) (hg : g < gm S) : GB S g Y := by
  have := h.m
  exact h.2.2.2.2.2.2.2 g (by omega)
theorem GB.n {S : Int → Int} {Y g : Nat} (h : GB S g Y) : S (38 * (g : Int) + 7) = (gn S g : Int) := h.2.2.2.2.2.2.2.1
theorem GB.p {S : Int → Int} {Y g : Nat} (h : GB S g Y) : PB (gn S g) (pr S g) (pd S g) (py S g) := h.2.2.2.2.2.2.2.2.1
theorem GB.s {S : Int → Int} {Y g : Nat} (h : GB S g Y) : Sj (pr S g) (gn S g) := h.2.2.2.2.2.2.2.2.2.1
noncomputable def oldf (S : Int → Int) (g : Nat) (z : Int) : Int := if S 239 < S 233 - py S g (ixf (pd S g) z (gn S g)).toNat then 1 else 0
def Dif (S : Int → Int) (g m : Nat) : Prop := ∃ h : Nat, h < m ∧ h ≠ g ∧ S (38 * (h : Int) + 2) = S (38 * (g : Int) + 2) ∧ val S h = 1 ∧ S 240 < ovl S g h 500
noncomputable def dif (S : Int → Int) (g : Nat) : Int := @ite Int (Dif S g (gm S)) (Classical.propDecidable _) 1 0
noncomputable def ref (S : Int → Int) (g : Nat) : Int :=
  if ixf (pd S g) 0 (gn S g) = -1 ∨ ixf (pd S g) 1000 (gn S g) = -1 then 3 else if oldf S g 0 = 1 ∨ oldf S g 1000 = 1 then 4 else if val S g = 1 then 5 else if dif S g = 1 then 6 else 0
theorem ref_rg (S : Int → Int) (g : Nat) : 0 ≤ ref S g ∧ ref S g ≤ 6 := by
  unfold ref
  split
  · omega
  · split
    · omega
    · split
      · omega
      · split <;> omega
def snc (S : Int → Int) (g : Nat) : Nat → Int
  | 0 => S (38 * (g : Int) + 4) - S (38 * (g : Int) + 6)
  | n + 1 => snc S g n + S (235 + S (38 * (g : Int) + 2)) / (S (38 * (g : Int) + 3) + (n : Int) + 1)
def frs (p : Nat → Bool) : Nat → Nat → Int
  | 0, _ => -1
  | f + 1, i => if p i = true then (i : Int) else frs p f (i + 1)
def vdf (S : Int → Int) (g : Nat) : Int := if S (38 * (g : Int) + 5) = -1 then -1 else frs (fun n => decide (S 241 < snc S g n)) 51 0
theorem frs_rg (p : Nat → Bool) : ∀ f i, -1 ≤ frs p f i ∧ frs p f i < ((i + f : Nat) : Int) + 1
  | 0, i => by show -1 ≤ (-1 : Int) ∧ (-1 : Int) < _; omega
  | f + 1, i => by
    have := frs_rg p f (i + 1)
    unfold frs
    split <;> omega
theorem snc_rg {S : Int → Int} {g Y : Nat} (hB : SB S Y) (h : GB S g Y) : ∀ n : Nat, 0 ≤ snc S g n ∧ snc S g n ≤ 3600 + 60 * (n : Int) ∧ 0 ≤ S (235 + S (38 * (g : Int) + 2)) ∧ S (235 + S (38 * (g : Int) + 2)) ≤ 60 := by
  obtain ⟨a1, a2, a3, a4, a5, a6, a7, -⟩ := h
  have hk := hB.2.2.2.2.1 (S (38 * (g : Int) + 2)) (by omega) (by omega)
  rw [if_pos (by omega)] at hk
  intro n
  induction n with
  | zero => unfold snc; omega
  | succ n ih =>
    have h1 : 0 ≤ S (235 + S (38 * (g : Int) + 2)) / (S (38 * (g : Int) + 3) + (n : Int) + 1) := Int.ediv_nonneg (by omega) (by omega)
    have h2 : S (235 + S (38 * (g : Int) + 2)) / (S (38 * (g : Int) + 3) + (n : Int) + 1) ≤ S (235 + S (38 * (g : Int) + 2)) := Int.ediv_le_self _ (by omega)
    unfold snc
    omega
def sm (f : Nat → Int) : Nat → Int
  | 0 => 0
  | n + 1 => sm f n + f n
theorem sm_rg {f : Nat → Int} {M : Int} {n : Nat} (h : ∀ k, k < n → 0 ≤ f k ∧ f k ≤ M) (hM : 0 ≤ M) : 0 ≤ sm f n ∧ sm f n ≤ M * (n : Int) := by
  induction n with
  | zero => exact ⟨Int.le_refl 0, by show (0 : Int) ≤ M * 0; omega⟩
  | succ n ih =>
    have h1 := ih (fun k hk => h k (by omega))
    have h2 := h n (by omega)
    have h3 : M * ((n + 1 : Nat) : Int) = M * (n : Int) + M := by
      rw [show ((n + 1 : Nat) : Int) = (n : Int) + 1 from rfl, Int.mul_add, Int.mul_one]
    show 0 ≤ sm f n + f n ∧ sm f n + f n ≤ _
    omega
theorem sm_c {f f' : Nat → Int} {n : Nat} (h : ∀ k, k < n → f k = f' k) : sm f n = sm f' n := by
  induction n with
  | zero => rfl
  | succ n ih =>
    show sm f n + f n = sm f' n + f' n
    rw [ih (fun k hk => h k (by omega)), h n (by omega)]
section
variable {o : OM} {S : Int → Int} {g Y : Nat}
theorem dif_01 (S : Int → Int) (g : Nat) : dif S g = 0 ∨ dif S g = 1 := by
  unfold dif
  split
  · exact Or.inr rfl
  · exact Or.inl rfl
theorem oldf_01 (S : Int → Int) (g : Nat) (z : Int) : oldf S g z = 0 ∨ oldf S g z = 1 := by
  unfold oldf
  split
  · exact Or.inr rfl
  · exact Or.inl rfl
end
