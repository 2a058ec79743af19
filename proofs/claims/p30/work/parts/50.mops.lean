/-! the model's changes, on the row of numbers -/
def upI (S : Int → Int) (a v : Int) : Int → Int := fun b => if b = a then v else S b
theorem upI_s (S : Int → Int) (a v : Int) : upI S a v a = v := if_pos rfl
theorem upI_n (S : Int → Int) {a b : Int} (v : Int) (h : b ≠ a) : upI S a v b = S b := if_neg h
theorem MS.up {o : OM} {S : Int → Int} (h : MS o S) {a : Int} (h1 : 0 ≤ a) (h2 : a < 244) (v : Int) : MS (wr o 20 0 (I a).toNatClampNeg (I v)) (upI S a v) := by
  intro b hb1 hb2
  rw [X_d, X_eq _ _ hb1 (by omega) h1 (by omega)]
  unfold upI
  by_cases e : b = a
  · rw [if_pos e, if_pos e]
  · rw [if_neg e, if_neg e]
    exact h b hb1 hb2
theorem MS.c {o : OM} {S S' : Int → Int} (h : MS o S) (e : ∀ a : Int, 0 ≤ a → a < 244 → S a = S' a) : MS o S' := fun a h1 h2 => by rw [h a h1 h2, e a h1 h2]
theorem MS.fr {o o1 : OM} {S : Int → Int} (h : MS o S) (e : o1.1 20 0 = o.1 20 0) : MS o1 S := fun a h1 h2 => by
  have := h a h1 h2
  unfold rd at this ⊢
  rw [e]
  exact this
def cutS (S : Int → Int) (g q : Nat) : Int → Int := fun a => if a = 38 * (g : Int) + 7 then S a - 1 else if 38 * (g : Int) + 8 + 3 * (q : Int) ≤ a ∧ a < 38 * (g : Int) + 35 then S (a + 3) else S a
def dropS (S : Int → Int) (g : Nat) (z : Int) : Int → Int := if ixf (pd S g) z (gn S g) = -1 then S else cutS S g (ixf (pd S g) z (gn S g)).toNat
def addS (S : Int → Int) (g : Nat) (x z y : Int) : Int → Int := upI (upI (upI (upI S (38 * (g : Int) + (8 + 3 * (gn S g : Int))) x) (38 * (g : Int) + (8 + 3 * (gn S g : Int)) + 1) z) (38 * (g : Int) + (8 + 3 * (gn S g : Int)) + 2) y) (38 * (g : Int) + 7) ((gn S g : Int) + 1)
def measS (S : Int → Int) (g : Nat) (z : Int) : Int → Int := addS (dropS S g z) g (rdg S g z) z (S 233)
def sealS (S : Int → Int) (g : Nat) : Int → Int := upI (upI (upI S 234 (S 234 + 1)) (38 * (g : Int) + 5) (S 234 + 1)) (38 * (g : Int) + 6) (S (38 * (g : Int) + 4))
def makeS (S : Int → Int) (a b c : Int) : Int → Int := fun i => if i = 228 then S 228 + 1 else if 38 * (gm S : Int) ≤ i ∧ i < 38 * (gm S : Int) + 38 then (if i = 38 * (gm S : Int) + 0 then a else if i = 38 * (gm S : Int) + 1 then b else if i = 38 * (gm S : Int) + 2 then c else if i = 38 * (gm S : Int) + 5 then -1 else 0) else S i
def growS (S : Int → Int) (g : Nat) : Int → Int := upI (upI S (38 * (g : Int) + 4) (S (38 * (g : Int) + 4) + S (235 + S (38 * (g : Int) + 2)) / (S (38 * (g : Int) + 3) + 1))) (38 * (g : Int) + 3) (S (38 * (g : Int) + 3) + 1)
def yrS (S : Int → Int) : Nat → Int → Int
  | 0 => S
  | n + 1 => growS (yrS S n) n
def brkS (S : Int → Int) (g : Nat) : Int → Int := fun i => if i = 228 then S 228 - 1 else if 38 * (g : Int) ≤ i ∧ i < 190 then S (i + 38) else S i
section
variable {o : OM} {S : Int → Int} {g Y : Nat}
end
