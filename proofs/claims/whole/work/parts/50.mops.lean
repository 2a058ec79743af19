/-! the model's changes, on the row of numbers -/
def upI (S : Int → Int) (a v : Int) : Int → Int := fun b => if b = a then v else S b
theorem upI_s (S : Int → Int) (a v : Int) : upI S a v a = v := if_pos rfl
theorem upI_n (S : Int → Int) {a b : Int} (v : Int) (h : b ≠ a) : upI S a v b = S b := if_neg h
theorem MS.up {o : OM} {S : Int → Int} (h : MS o S) {a : Int} (h1 : 0 ≤ a) (h2 : a < 244) (v : Int) : MS (wr o 20 0 (I a).toNatClampNeg (I v)) (upI S a v) := by
  intro b hb1 hb2
  rw [X_d, X_eq _ _ hb1 (by omega) h1 (by omega)]
  unfold upI
  by_cases e : b = a
  · rw [if_pos e, if_pos e]
  · rw [if_neg e, if_neg e]
    exact h b hb1 hb2
theorem MS.c {o : OM} {S S' : Int → Int} (h : MS o S) (e : ∀ a : Int, 0 ≤ a → a < 244 → S a = S' a) : MS o S' := fun a h1 h2 => by rw [h a h1 h2, e a h1 h2]
theorem MS.fr {o o1 : OM} {S : Int → Int} (h : MS o S) (e : o1.1 20 0 = o.1 20 0) : MS o1 S := fun a h1 h2 => by
  have := h a h1 h2
  unfold rd at this ⊢
  rw [e]
  exact this
def cutS (S : Int → Int) (g q : Nat) : Int → Int := fun a => if a = 38 * (g : Int) + 7 then S a - 1 else if 38 * (g : Int) + 8 + 3 * (q : Int) ≤ a ∧ a < 38 * (g : Int) + 35 then S (a + 3) else S a
def dropS (S : Int → Int) (g : Nat) (z : Int) : Int → Int := if ixf (pd S g) z (gn S g) = -1 then S else cutS S g (ixf (pd S g) z (gn S g)).toNat
def addS (S : Int → Int) (g : Nat) (x z y : Int) : Int → Int := upI (upI (upI (upI S (38 * (g : Int) + (8 + 3 * (gn S g : Int))) x) (38 * (g : Int) + (8 + 3 * (gn S g : Int)) + 1) z) (38 * (g : Int) + (8 + 3 * (gn S g : Int)) + 2) y) (38 * (g : Int) + 7) ((gn S g : Int) + 1)
def measS (S : Int → Int) (g : Nat) (z : Int) : Int → Int := addS (dropS S g z) g (rdg S g z) z (S 233)
def sealS (S : Int → Int) (g : Nat) : Int → Int := upI (upI (upI S 234 (S 234 + 1)) (38 * (g : Int) + 5) (S 234 + 1)) (38 * (g : Int) + 6) (S (38 * (g : Int) + 4))
def makeS (S : Int → Int) (a b c : Int) : Int → Int := fun i => if i = 228 then S 228 + 1 else if 38 * (gm S : Int) ≤ i ∧ i < 38 * (gm S : Int) + 38 then (if i = 38 * (gm S : Int) + 0 then a else if i = 38 * (gm S : Int) + 1 then b else if i = 38 * (gm S : Int) + 2 then c else if i = 38 * (gm S : Int) + 5 then -1 else 0) else S i
def growS (S : Int → Int) (g : Nat) : Int → Int := upI (upI S (38 * (g : Int) + 4) (S (38 * (g : Int) + 4) + S (235 + S (38 * (g : Int) + 2)) / (S (38 * (g : Int) + 3) + 1))) (38 * (g : Int) + 3) (S (38 * (g : Int) + 3) + 1)
def yrS (S : Int → Int) : Nat → Int → Int
  | 0 => S
  | n + 1 => growS (yrS S n) n
def brkS (S : Int → Int) (g : Nat) : Int → Int := fun i => if i = 228 then S 228 - 1 else if 38 * (g : Int) ≤ i ∧ i < 190 then S (i + 38) else S i
section
variable {o : OM} {S : Int → Int} {g Y : Nat}
theorem cut_loop (hg : g < 6) (kk : OM → Option (Int32 × OM)) : ∀ (fuel : Nat) (o : OM) (i : Int), 38 * (g : Int) + 8 ≤ i → i ≤ 38 * (g : Int) + 35 → 38 * (g : Int) + 35 < i + fuel → ∃ o1, LX6_drops_26 kk (I (g : Int)) fuel o (I i) = kk o1 ∧ Fk o o1 20 ∧ ∀ a : Int, 0 ≤ a → a < 244 → X o1 20 a = if i ≤ a ∧ a < 38 * (g : Int) + 35 then X o 20 (a + 3) else X o 20 a := by
  intro fuel
  induction fuel with
  | zero => intro o i h1 h2 h3; omega
  | succ fuel ih =>
    intro o i h1 h2 h3
    rw [LX6_drops_26.eq_2]
    by_cases hi : 38 * (g : Int) + 35 ≤ i
    · refine ⟨o, ?_, Fk.rf o 20, fun a ha1 ha2 => by rw [if_neg (by omega)]⟩
      simp (disch := omega) only [↓bd_e, bq_e, bn_e, grd_e, I_add, I_sub, I_mul, I_neg, isZ0, isZ1, isZ_tf, tf_z, tf_le, I_lit, I_inB, I_tcN, I_lt, I_le, I_eq, ↓reduceIte, not_true_eq_false, not_false_eq_true, nz, of_e, hi]
    · obtain ⟨o1, e1, f1, c1⟩ := ih (wr o 20 0 (I i).toNatClampNeg (X o 20 (i + 3))) (i + 1) (by omega) (by omega) (by omega)
      refine ⟨o1, ?_, ((Fk.rf o 20).wr).tr f1, fun a ha1 ha2 => ?_⟩
      · rw [← e1]
        simp (disch := omega) only [↓bd_e, bq_e, bn_e, grd_e, I_add, I_sub, I_mul, I_neg, isZ0, isZ1, isZ_tf, tf_z, tf_le, I_lit, I_inB, I_tcN, I_lt, I_le, I_eq, ↓reduceIte, not_true_eq_false, not_false_eq_true, nz, of_e, hi, X_d]
      · rw [c1 a ha1 ha2]
        by_cases h2 : i + 1 ≤ a ∧ a < 38 * (g : Int) + 35
        · rw [if_pos h2, X_eq _ _ (by omega) (by omega) (by omega) (by omega), if_neg (by omega), if_pos (by omega)]
        · rw [if_neg h2, X_eq _ _ (by omega) (by omega) (by omega) (by omega)]
          by_cases h : a = i
          · rw [if_pos h, if_pos (by omega), h]
          · rw [if_neg h, if_neg (by omega)]
theorem drops_e (hS : MS o S) (h : GB S g Y) (hg : g < 6) {z : Int} (h1 : -400 ≤ z) (h2 : z ≤ 1500) : ∃ o1, F_X6_drops o (I (g : Int)) (I z) = some (I (if ixf (pd S g) z (gn S g) = -1 then 0 else 1), o1) ∧ Fk o o1 20 ∧ MS o1 (dropS S g z) := by
  have hp := pointAt_f hS h hg h1 h2
  have hx := ixf_rg (pd S g) z (gn S g)
  have hn10 := h.p.1
  have hFU : 100 < FU := by unfold FU; omega
  unfold F_X6_drops dropS
  generalize FU = F at hFU ⊢
  by_cases c : ixf (pd S g) z (gn S g) = -1
  · rw [if_pos c, if_pos c]
    refine ⟨o, ?_, Fk.rf o 20, hS⟩
    simp (disch := omega) only [↓bd_e, bq_e, bn_e, grd_e, I_add, I_sub, I_mul, I_neg, isZ0, isZ1, isZ_tf, tf_z, tf_le, I_lit, I_inB, I_tcN, I_lt, I_le, I_eq, ↓reduceIte, not_true_eq_false, not_false_eq_true, nz, hp, c]
  · rw [if_neg c, if_neg c]
    obtain ⟨q, hq⟩ : ∃ q : Nat, ixf (pd S g) z (gn S g) = (q : Int) := ⟨(ixf (pd S g) z (gn S g)).toNat, by omega⟩
    rw [hq] at hp c ⊢
    rw [Int.toNat_natCast]
    obtain ⟨o1, e1, f1, c1⟩ := cut_loop hg (fun (o_3 : OM) => bq (F_X6_of o_3 (I (g : Int)) (I 7)) (fun r_4 => grd (inB r_4 244) (grd (inB r_4 244) (bd (wr o_3 20 0 r_4.toNatClampNeg ((rd o_3 20 0 r_4.toNatClampNeg) - (I 1))) (fun o_5 : OM => some ((I 1), o_5)))))) F o (38 * (g : Int) + (8 + 3 * (q : Int))) (by omega) (by omega) (by omega)
    have g7 : X o1 20 (38 * (g : Int) + 7) = I (S (38 * (g : Int) + 7)) := by
      rw [c1 _ (by omega) (by omega), if_neg (by omega)]
      exact hS _ (by omega) (by omega)
    refine ⟨wr o1 20 0 (I (38 * (g : Int) + 7)).toNatClampNeg (I (S (38 * (g : Int) + 7) - 1)), ?_, f1.wr, fun a ha1 ha2 => ?_⟩
    · have z1 : (-1 : Int32) = I (-1) := rfl
      have z3 : (3 : Int32) = I 3 := rfl
      have z8 : (8 : Int32) = I 8 := rfl
      have c' : ¬ (I (q : Int) = I (-1)) := fun e => c (I_inj (by omega) (by omega) (by omega) (by omega) e)
      rw [hp, bq_e, z1, if_neg c', z3, z8, I_mul, I_add, of_e, bq_e, bd_e]
      refine e1.trans ?_
      simp (disch := omega) only [↓bd_e, bq_e, bn_e, grd_e, I_add, I_sub, I_mul, I_neg, isZ0, isZ1, isZ_tf, tf_z, tf_le, I_lit, I_inB, I_tcN, I_lt, I_le, I_eq, ↓reduceIte, not_true_eq_false, not_false_eq_true, nz, of_e, X_d, g7]
    · rw [X_d, X_eq _ _ (by omega) (by omega) (by omega) (by omega)]
      unfold cutS
      by_cases e : a = 38 * (g : Int) + 7
      · rw [if_pos e, if_pos e, e]
      · rw [if_neg e, if_neg e, c1 a ha1 ha2]
        by_cases e2 : 38 * (g : Int) + (8 + 3 * (q : Int)) ≤ a ∧ a < 38 * (g : Int) + 35
        · rw [if_pos e2, if_pos (by omega)]
          exact hS _ (by omega) (by omega)
        · rw [if_neg e2, if_neg (by omega)]
          exact hS _ (by omega) (by omega)
theorem mseals_e (hS : MS o S) (hg : g < 6) : ∃ o1, F_X6_seals o (I (g : Int)) = some (I (S 234 + 1), o1) ∧ Fk o o1 20 ∧ MS o1 (sealS S g) := by
  have s1 := hS.up (a := 234) (by omega) (by omega) (S 234 + 1)
  have s2 := s1.up (a := 38 * (g : Int) + 5) (by omega) (by omega) (S 234 + 1)
  have s3 := s2.up (a := 38 * (g : Int) + 6) (by omega) (by omega) (S (38 * (g : Int) + 4))
  have q0 := hS 234 (by omega) (by omega)
  have q1 := s1 234 (by omega) (by omega)
  rw [upI_s] at q1
  have q2 := get_e s2 hg (w := 4) (by omega) (by omega)
  rw [upI_n _ _ (by omega), upI_n _ _ (by omega)] at q2
  have q3 := s3 234 (by omega) (by omega)
  rw [upI_n _ _ (by omega), upI_n _ _ (by omega), upI_s] at q3
  refine ⟨_, ?_, ((((Fk.rf o 20).wr).wr).wr), s3⟩
  unfold F_X6_seals
  simp (disch := omega) only [↓bd_e, bq_e, bn_e, grd_e, I_add, I_sub, I_mul, I_neg, isZ0, isZ1, isZ_tf, tf_z, tf_le, I_lit, I_inB, I_tcN, I_lt, I_le, I_eq, ↓reduceIte, not_true_eq_false, not_false_eq_true, nz, of_e, q0, q1, q2, q3]
theorem fills_e (hS : MS o S) {b : Int} (h1 : 0 ≤ b) (h2 : b < 4) (z : Int) : ∃ o1, F_X6_fills o (I b) (I z) = some (I (S (229 + b) + 10000), o1) ∧ Fk o o1 20 ∧ MS o1 (upI S (229 + b) z) := by
  have q0 := hS (229 + b) (by omega) (by omega)
  refine ⟨_, ?_, (Fk.rf o 20).wr, hS.up (a := 229 + b) (by omega) (by omega) z⟩
  unfold F_X6_fills
  simp (disch := omega) only [↓bd_e, bq_e, bn_e, grd_e, I_add, I_sub, I_mul, I_neg, isZ0, isZ1, isZ_tf, tf_z, tf_le, I_lit, I_inB, I_tcN, I_lt, I_le, I_eq, ↓reduceIte, not_true_eq_false, not_false_eq_true, nz, q0]
end
