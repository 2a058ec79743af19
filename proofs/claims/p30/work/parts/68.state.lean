/-! a State copied -/
/-- nothing but the thermometers of State j is changed -/
def Fs (o o1 : OM) (j : Nat) : Prop := (∀ k i, ¬ (i / 6 = j ∧ 5 ≤ k ∧ k ≤ 13) → o1.1 k i = o.1 k i) ∧ o1.2 = o.2
theorem TC.mm {m m' : Nat → Nat → Int32} {S : Int → Int} {g : Nat} (h : TC m S g) (e : ∀ k, 5 ≤ k → k ≤ 13 → m' k = m k) : TC m' S g := by
  obtain ⟨a1, a2, a3, a4, a5, a6, a7, a8, a9⟩ := h
  unfold TC
  rw [e 5 (by omega) (by omega), e 6 (by omega) (by omega)]
  exact ⟨a1, a2, a3, a4, a5, a6, a7, a8, a9.m (fun k i h1 h2 _ => by rw [e k (by omega) h2])⟩
theorem copy2_loop {j0 j1 m : Nat} {S : Int → Int} (hj : j0 ≠ j1) (hm : m ≤ 6) (h10 : ∀ g, g < m → gn S g ≤ 10) (kk : OM → Option (Unit × OM)) : ∀ (fuel i : Nat) (o : OM), m < i + fuel → i ≤ m → rd o 1 j0 2 = I (m : Int) → PM o j0 → (∀ g : Nat, g < m → TC (fun k => o.1 k (tid j1 (rd o 4 j1 g))) S g) → (∀ g : Nat, g < i → TC (fun k => o.1 k (tid j0 (rd o 4 j0 g))) S g) →
    ∃ o1, LX2_copyFrom_78 kk j0 j1 fuel o (I (i : Int)) = kk o1 ∧ Fs o o1 j0 ∧ ∀ g : Nat, g < m → TC (fun k => o1.1 k (tid j0 (rd o 4 j0 g))) S g := by
  intro fuel
  induction fuel with
  | zero => intro i o h1 h2; omega
  | succ fuel ih =>
    intro i o h1 h2 h3 hP hA hD
    rw [LX2_copyFrom_78.eq_2]
    by_cases hi : (m : Int) ≤ (i : Int)
    · have : i = m := by omega
      rw [this] at hD
      refine ⟨o, ?_, ⟨fun _ _ _ => rfl, rfl⟩, hD⟩
      simp (disch := omega) only [↓bd_e, bq_e, bn_e, grd_e, I_add, I_sub, I_mul, I_neg, isZ0, isZ1, isZ_tf, tf_z, tf_le, I_lit, I_inB, I_tcN, I_lt, I_le, I_eq, ↓reduceIte, not_true_eq_false, not_false_eq_true, nz, h3, hi]
    · have hne : tid j0 (rd o 4 j0 i) ≠ tid j1 (rd o 4 j1 i) := by unfold tid; omega
      have hd0 : ∀ g, tid j0 (rd o 4 j0 g) / 6 = j0 := fun g => by unfold tid; omega
      have hd1 : ∀ g, tid j1 (rd o 4 j1 g) / 6 = j1 := fun g => by unfold tid; omega
      obtain ⟨o1, e1, f1, t1⟩ := copy3_e hne (hA i (by omega)) (h10 i (by omega))
      have k4 : ∀ j g, rd o1 4 j g = rd o 4 j g := fun j g => f1.rd (by omega)
      have k1 : rd o1 1 j0 2 = I (m : Int) := by rw [f1.rd (by omega), h3]
      have hi0 := hd0 i
      obtain ⟨o2, e2, f2, t2⟩ := ih (i + 1) o1 (by omega) (by omega) k1 (fun g hg => by
        obtain ⟨v, v1, v2, v3⟩ := hP g hg
        exact ⟨v, v1, by rw [k4]; exact v2, fun g' hg' e => v3 g' hg' (by rw [← k4, ← k4]; exact e)⟩) (fun g hg => by
        rw [k4]
        have := hd1 g
        exact (hA g hg).mm (fun k a b => f1.1 k _ (by intro z; have := z.1; omega))) (fun g hg => by
        rw [k4]
        by_cases e : g = i
        · rw [e]; exact t1
        · have hn := pm_ne hP (g := g) (g' := i) (by omega) (by omega) e
          exact (hD g (by omega)).mm (fun k a b => f1.1 k _ (by intro z; exact hn z.1)))
      refine ⟨o2, ?_, ⟨fun k t hk => (f2.1 k t hk).trans (f1.1 k t (by intro z; apply hk; rw [z.1]; exact ⟨hi0, z.2⟩)), f2.2.trans f1.2⟩, fun g hg => by have := t2 g hg; rw [k4] at this; exact this⟩
      have hc : ¬ (I (m : Int) ≤ I (i : Int)) := by
        rw [I_le (by omega) (by omega) (by omega) (by omega)]
        exact hi
      have z1 : (1 : Int32) = I 1 := rfl
      dsimp only
      rw [h3, if_neg hc, I_inB (a := (i : Int)) (by omega) (by omega) (by omega), grd_e, I_tcN (by omega), bd_e, grd_e, bd_e, e1, bn_e, bd_e, z1, I_add]
      exact e2
theorem copy2_e {o : OM} {j0 j1 Y : Nat} {S : Int → Int} (hj : j0 ≠ j1) (hC : CS o j1 S) (hB : SB S Y) (hP : PM o j0) : ∃ o1, F_X2_copyFrom o j0 j1 = some ((), o1) ∧ (∀ k i, ¬ ((i = j0 ∧ 1 ≤ k ∧ k ≤ 3) ∨ (i / 6 = j0 ∧ 5 ≤ k ∧ k ≤ 13)) → o1.1 k i = o.1 k i) ∧ o1.2 = o.2 ∧ CS o1 j0 S := by
  have hm := hB.m
  obtain ⟨a1, a2, a3, a4, a5, a6, a7, a8⟩ := hC
  have hFU : 100 < FU := by unfold FU; omega
  unfold F_X2_copyFrom
  generalize FU = F at hFU ⊢
  obtain ⟨p, hp⟩ : ∃ p, p = wrA (wrA (wr (wr (wr (wr (wr o 1 j0 0 (I (S 233))) 1 j0 1 (I (S 234))) 1 j0 2 (I (S 228))) 1 j0 3 (I (S 244))) 1 j0 4 (I (S 245))) 2 j0 (va_cpy (o.1 2 j1) (o.1 2 j0) 0 0 4)) 3 j0 (va_cpy (o.1 3 j1) (o.1 3 j0) 0 0 7) := ⟨_, rfl⟩
  have fp : ∀ k i, ¬ (i = j0 ∧ 1 ≤ k ∧ k ≤ 3) → p.1 k i = o.1 k i := fun k i hk => by
    rw [hp, wrA_ne _ _ (by omega), wrA_ne _ _ (by omega), wr_ne _ _ (by omega), wr_ne _ _ (by omega), wr_ne _ _ (by omega), wr_ne _ _ (by omega), wr_ne _ _ (by omega)]
  have v : rd p 1 j0 0 = I (S 233) ∧ rd p 1 j0 1 = I (S 234) ∧ rd p 1 j0 2 = I (S 228) ∧ rd p 1 j0 3 = I (S 244) ∧ rd p 1 j0 4 = I (S 245) := by
    rw [hp]
    simp (disch := omega) only [rd_wr, rd_wj, rd_wA]
    exact ⟨trivial, trivial, trivial, trivial, trivial⟩
  have k4 : ∀ j g, rd p 4 j g = rd o 4 j g := fun j g => congrFun (fp 4 j (by omega)) g
  obtain ⟨o1, e1, f1, t1⟩ := copy2_loop (o := p) hj (m := gm S) hm.2 (fun g hg => (hB.g hg).p.1) (fun (o_8 : OM) => some ((), o_8)) F 0 (by omega) (by omega) (by rw [v.2.2.1, hm.1]) (fun g hg => by
    obtain ⟨w, w1, w2, w3⟩ := hP g hg
    exact ⟨w, w1, by rw [k4]; exact w2, fun g' hg' e => w3 g' hg' (by rw [← k4, ← k4]; exact e)⟩) (fun g hg => by
    rw [k4]
    exact (a8 g hg).mm (fun k a b => fp k _ (by omega))) (fun g hg => by omega)
  have r1 : ∀ k i, 1 ≤ k → k ≤ 4 → rd o1 k j0 i = rd p k j0 i := fun k i a b => congrFun (f1.1 k j0 (by omega)) i
  refine ⟨o1, ?_, fun k i hk => ?_, ?_, ?_⟩
  · have z0 : (0 : Int32) = I ((0 : Nat) : Int) := rfl
    have c4 : inC (4 : Int32) 4 4 = true := by decide
    have c7 : inC (7 : Int32) 7 7 = true := by decide
    have n4 : (4 : Int32).toNatClampNeg = 4 := by decide
    have n7 : (7 : Int32).toNatClampNeg = 7 := by decide
    have g : ∀ (o' : OM) (j q : Nat) (w : Int32), rd (wr o' 1 j0 j w) 1 j1 q = rd o' 1 j1 q := fun o' j q w => rd_wk _ _ (by omega)
    have n2 : ∀ (o' : OM) (j : Nat) (w : Int32) (q : Nat), (wr o' 1 j0 j w).1 2 q = o'.1 2 q := fun o' j w q => wr_ne _ _ (by omega)
    have n3 : ∀ (o' : OM) (j : Nat) (w : Int32) (q : Nat), (wr o' 1 j0 j w).1 3 q = o'.1 3 q := fun o' j w q => wr_ne _ _ (by omega)
    have n5 : ∀ (o' : OM) (f : Nat → Int32) (q : Nat), (wrA o' 2 j0 f).1 3 q = o'.1 3 q := fun o' f q => wrA_ne _ _ (by omega)
    rw [a1, bd_e, g, a2, bd_e, g, g, a3, bd_e, g, g, g, a4, bd_e, g, g, g, g, a5, bd_e, c4, grd_e, n4, n2, n2, n2, n2, n2, n2, n2, n2, n2, n2, bd_e, c7, grd_e, n7, n5, n5, n3, n3, n3, n3, n3, n3, n3, n3, n3, n3, bd_e, bd_e, ← hp, z0]
    exact e1
  · rw [f1.1 k i (by omega), fp k i (by omega)]
  · rw [f1.2, hp]
    rfl
  · refine ⟨(r1 1 0 (by omega) (by omega)).trans v.1, (r1 1 1 (by omega) (by omega)).trans v.2.1, (r1 1 2 (by omega) (by omega)).trans v.2.2.1, (r1 1 3 (by omega) (by omega)).trans v.2.2.2.1, (r1 1 4 (by omega) (by omega)).trans v.2.2.2.2, fun a h1 h2 => ?_, fun a h1 h2 => ?_, fun g hg => ?_⟩
    · rw [r1 2 _ (by omega) (by omega), hp, rd_wA _ _ (by omega), rd_wAs, cpy_in (by rw [I_tc h1 (by omega)]; omega)]
      exact a6 a h1 h2
    · rw [r1 3 _ (by omega) (by omega), hp, rd_wAs, cpy_in (by rw [I_tc h1 (by omega)]; omega)]
      exact a7 a h1 h2
    · rw [r1 4 _ (by omega) (by omega)]
      exact t1 g hg
