/-! a State copied -/
/-- nothing but the thermometers of State j is changed -/
def Fs (o o1 : OM) (j : Nat) : Prop := (∀ k i, ¬ (i / 6 = j ∧ 5 ≤ k ∧ k ≤ 13) → o1.1 k i = o.1 k i) ∧ o1.2 = o.2
theorem TC.mm {m m' : Nat → Nat → Int32} {S : Int → Int} {g : Nat} (h : TC m S g) (e : ∀ k, 5 ≤ k → k ≤ 13 → m' k = m k) : TC m' S g := by
  obtain ⟨a1, a2, a3, a4, a5, a6, a7, a8, a9⟩ := h
  unfold TC
  rw [e 5 (by omega) (by omega), e 6 (by omega) (by omega)]
  exact ⟨a1, a2, a3, a4, a5, a6, a7, a8, a9.m (fun k i h1 h2 _ => by rw [e k (by omega) h2])⟩
theorem copy2_loop {j0 j1 m : Nat} {S : Int → Int} (hj : j0 ≠ j1) (hm : m ≤ 6) (h10 : ∀ g, g < m → gn S g ≤ 10) (kk : OM → Option (Unit × OM)) : ∀ (fuel i : Nat) (o : OM), m < i + fuel → i ≤ m → rd o 1 j0 2 = I (m : Int) → PM o j0 → (∀ g : Nat, g < m → TC (fun k => o.1 k (tid j1 (rd o 4 j1 g))) S g) → (∀ g : Nat, g < i → TC (fun k => o.1 k (tid j0 (rd o 4 j0 g))) S g) →
    ∃ o1, LX2_copyFrom_78 kk j0 j1 fuel o (I (i : Int)) = kk o1 ∧ Fs o o1 j0 ∧ ∀ g : Nat, g < m → TC (fun k => o1.1 k (tid j0 (rd o 4 j0 g))) S g := by
  intro fuel
  induction fuel with
  | zero => intro i o h1 h2; omega
  | succ fuel ih =>
    intro i o h1 h2 h3 hP hA hD
    rw [LX2_copyFrom_78.eq_2]
    by_cases hi : (m : Int) ≤ (i : Int)
    · have : i = m := by omega
      rw [this] at hD
      refine ⟨o, ?_, ⟨fun _ _ _ => rfl, rfl⟩, hD⟩
      simp (disch := omega) only [↓bd_e, bq_e, bn_e, grd_e, I_add, I_sub, I_mul, I_neg, isZ0, isZ1, isZ_tf, tf_z, tf_le, I_lit, I_inB, I_tcN, I_lt, I_le, I_eq, ↓reduceIte, not_true_eq_false, not_false_eq_true, nz, h3, hi]
    · have hne : tid j0 (rd o 4 j0 i) ≠ tid j1 (rd o 4 j1 i) := by unfold tid; omega
      have hd0 : ∀ g, tid j0 (rd o 4 j0 g) / 6 = j0 := fun g => by unfold tid; omega
      have hd1 : ∀ g, tid j1 (rd o 4 j1 g) / 6 = j1 := fun g => by unfold tid; omega
      obtain ⟨o1, e1, f1, t1⟩ := copy3_e hne (hA i (by omega)) (h10 i (by omega))
      have k4 : ∀ j g, rd o1 4 j g = rd o 4 j g := fun j g => f1.rd (by omega)
      have k1 : rd o1 1 j0 2 = I (m : Int) := by rw [f1.rd (by omega), h3]
      have hi0 := hd0 i
      obtain ⟨o2, e2, f2, t2⟩ := ih (i + 1) o1 (by omega) (by omega) k1 (fun g hg => by
        obtain ⟨v, v1, v2, v3⟩ := hP g hg
        exact ⟨v, v1, by rw [k4]; exact v2, fun g' hg' e => v3 g' hg' (by rw [← k4, ← k4]; exact e)⟩) (fun g hg => by
        rw [k4]
        have := hd1 g
        exact (hA g hg).mm (fun k a b => f1.1 k _ (by intro z; have := z.1; omega))) (fun g hg => by
        rw [k4]
        by_cases e : g = i
        · rw [e]; exact t1
        · have hn := pm_ne hP (g := g) (g' := i) (by omega) (by omega) e
          exact (hD g (by omega)).mm (fun k a b => f1.1 k _ (by intro z; exact hn z.1)))
      refine ⟨o2, ?_, ⟨fun k t hk => (f2.1 k t hk).trans (f1.1 k t (by intro z; apply hk; rw [z.1]; exact ⟨hi0, z.2⟩)), f2.2.trans f1.2⟩, fun g hg => by have := t2 g hg; rw [k4] at this; exact this⟩
      have hc : ¬ (I (m : Int) ≤ I (i : Int)) := by
        rw [I_le (by omega) (by omega) (by omega) (by omega)]
        exact hi
      have z1 : (1 : Int32) = I 1 := rfl
      dsimp only
      rw [h3, if_neg hc, I_inB (a := (i : Int)) (by omega) (by omega) (by omega), grd_e, I_tcN (by omega), bd_e, grd_e, bd_e, e1, bn_e, bd_e, z1, I_add]
      exact e2
