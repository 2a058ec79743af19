/-! the program's copying -/
theorem cpy_in {f g : Nat → Int32} {n j : Nat} (h : j < n) : va_cpy f g 0 0 n j = f j := by
  unfold va_cpy
  rw [if_pos (by omega), Nat.sub_zero, Nat.zero_add]
theorem cpy_out {f g : Nat → Int32} {n j : Nat} (h : n ≤ j) : va_cpy f g 0 0 n j = g j := by
  unfold va_cpy
  rw [if_neg (by omega)]
/-- nothing but the thermometer t is changed -/
def Ft (o o1 : OM) (t : Nat) : Prop := (∀ k i, ¬ (i = t ∧ 5 ≤ k ∧ k ≤ 13) → o1.1 k i = o.1 k i) ∧ o1.2 = o.2
theorem Ft.rf (o : OM) (t : Nat) : Ft o o t := ⟨fun _ _ _ => rfl, rfl⟩
theorem Ft.tr {o o1 o2 : OM} {t : Nat} (h : Ft o o1 t) (h' : Ft o1 o2 t) : Ft o o2 t := ⟨fun k i hk => (h'.1 k i hk).trans (h.1 k i hk), h'.2.trans h.2⟩
theorem Ft.wr {o o1 : OM} {t k j : Nat} {v : Int32} (h : Ft o o1 t) (hk : 5 ≤ k ∧ k ≤ 13) : Ft o (wr o1 k t j v) t := ⟨fun k' i hk' => (wr_ne o1 v (by omega)).trans (h.1 k' i hk'), h.2⟩
theorem Ft.wrA {o o1 : OM} {t k : Nat} {f : Nat → Int32} (h : Ft o o1 t) (hk : 5 ≤ k ∧ k ≤ 13) : Ft o (wrA o1 k t f) t := ⟨fun k' i hk' => (wrA_ne o1 f (by omega)).trans (h.1 k' i hk'), h.2⟩
theorem Fp.ft {o o1 : OM} {t : Nat} (h : Fp o o1 t) : Ft o o1 t := ⟨fun k i hk => h.1 k i (by omega), h.2⟩
theorem Ft.rd {o o1 : OM} {t k i j : Nat} (h : Ft o o1 t) (hk : ¬ (i = t ∧ 5 ≤ k ∧ k ≤ 13)) : rd o1 k i j = rd o k i j := by
  show o1.1 k i j = o.1 k i j
  rw [h.1 k i hk]
theorem copy1_e {o : OM} {t0 t1 n : Nat} (ht : t0 ≠ t1) (hn : rd o 6 t1 0 = I (n : Int)) (h10 : n ≤ 10) : ∃ o1, F_X1_copyFrom o t0 t1 = some ((), o1) ∧ Fp o o1 t0 ∧ rd o1 6 t0 0 = I (n : Int) ∧ ∀ k j, 7 ≤ k → k ≤ 13 → j < n → rd o1 k t0 j = rd o k t1 j := by
  unfold F_X1_copyFrom
  have g6 : ∀ f k o', 7 ≤ k → rd (wrA o' k t0 f) 6 t0 0 = rd o' 6 t0 0 := fun f k o' hk => rd_wA o' f (by omega)
  have b := I_inC (a := (n : Int)) (n := 10) (m := 10) (by omega) (by omega) (by omega) (by omega)
  have w6 : rd (wr o 6 t0 0 (I (n : Int))) 6 t0 0 = I (n : Int) := rd_wr _ _ _ _ _
  rw [hn, bd_e, w6, b, grd_e, bd_e, g6 _ _ _ (by omega), w6, b, grd_e, bd_e, g6 _ _ _ (by omega), g6 _ _ _ (by omega), w6, b, grd_e, bd_e, g6 _ _ _ (by omega), g6 _ _ _ (by omega), g6 _ _ _ (by omega), w6, b, grd_e, bd_e, g6 _ _ _ (by omega), g6 _ _ _ (by omega), g6 _ _ _ (by omega), g6 _ _ _ (by omega), w6, b, grd_e, bd_e, g6 _ _ _ (by omega), g6 _ _ _ (by omega), g6 _ _ _ (by omega), g6 _ _ _ (by omega), g6 _ _ _ (by omega), w6, b, grd_e, bd_e, g6 _ _ _ (by omega), g6 _ _ _ (by omega), g6 _ _ _ (by omega), g6 _ _ _ (by omega), g6 _ _ _ (by omega), g6 _ _ _ (by omega), w6, b, grd_e, bd_e]
  refine ⟨_, rfl, ⟨fun k i hk => ?_, rfl⟩, ?_, fun k j h1 h2 hj => ?_⟩
  · rw [wrA_ne _ _ (by omega), wrA_ne _ _ (by omega), wrA_ne _ _ (by omega), wrA_ne _ _ (by omega), wrA_ne _ _ (by omega), wrA_ne _ _ (by omega), wrA_ne _ _ (by omega), wr_ne _ _ (by omega)]
  · rw [g6 _ _ _ (by omega), g6 _ _ _ (by omega), g6 _ _ _ (by omega), g6 _ _ _ (by omega), g6 _ _ _ (by omega), g6 _ _ _ (by omega), g6 _ _ _ (by omega), w6]
  · have hc : k = 7 ∨ k = 8 ∨ k = 9 ∨ k = 10 ∨ k = 11 ∨ k = 12 ∨ k = 13 := by omega
    have hj' : j < (I (n : Int)).toNatClampNeg := by rw [I_tcN (by omega)]; exact hj
    rcases hc with rfl | rfl | rfl | rfl | rfl | rfl | rfl <;> simp (disch := omega) only [rd_wA, rd_wAs, wrA_ne, wr_ne, cpy_in hj'] <;> rfl
theorem copy3_e {o : OM} {t0 t1 g : Nat} {S : Int → Int} (ht : t0 ≠ t1) (hT : TC (fun k => o.1 k t1) S g) (h10 : gn S g ≤ 10) : ∃ o1, F_X3_copyFrom o t0 t1 = some ((), o1) ∧ Ft o o1 t0 ∧ TC (fun k => o1.1 k t0) S g := by
  unfold F_X3_copyFrom
  have hn := hT.n
  obtain ⟨a1, a2, a3, a4, a5, a6, a7, a8, a9⟩ := hT
  have a1 : rd o 5 t1 0 = I (S (38 * (g : Int) + 0)) := a1
  have a2 : rd o 5 t1 1 = I (S (38 * (g : Int) + 1)) := a2
  have a3 : rd o 5 t1 2 = I (S (38 * (g : Int) + 2)) := a3
  have a4 : rd o 5 t1 3 = I (S (38 * (g : Int) + 3)) := a4
  have a5 : rd o 5 t1 4 = I (S (38 * (g : Int) + 4)) := a5
  have a6 : rd o 5 t1 5 = I (S (38 * (g : Int) + 5)) := a6
  have a7 : rd o 5 t1 6 = I (S (38 * (g : Int) + 6)) := a7
  obtain ⟨p, hp⟩ : ∃ p, p = wr (wr (wr (wr (wr (wr (wr o 5 t0 0 (I (S (38 * (g : Int) + 0)))) 5 t0 1 (I (S (38 * (g : Int) + 1)))) 5 t0 2 (I (S (38 * (g : Int) + 2)))) 5 t0 3 (I (S (38 * (g : Int) + 3)))) 5 t0 4 (I (S (38 * (g : Int) + 4)))) 5 t0 5 (I (S (38 * (g : Int) + 5)))) 5 t0 6 (I (S (38 * (g : Int) + 6))) := ⟨_, rfl⟩
  have fp : Ft o p t0 := by
    rw [hp]
    exact (((((((Ft.rf o t0).wr (by omega)).wr (by omega)).wr (by omega)).wr (by omega)).wr (by omega)).wr (by omega)).wr (by omega)
  have v : rd p 5 t0 0 = I (S (38 * (g : Int) + 0)) ∧ rd p 5 t0 1 = I (S (38 * (g : Int) + 1)) ∧ rd p 5 t0 2 = I (S (38 * (g : Int) + 2)) ∧ rd p 5 t0 3 = I (S (38 * (g : Int) + 3)) ∧ rd p 5 t0 4 = I (S (38 * (g : Int) + 4)) ∧ rd p 5 t0 5 = I (S (38 * (g : Int) + 5)) ∧ rd p 5 t0 6 = I (S (38 * (g : Int) + 6)) := by
    rw [hp]
    simp (disch := omega) only [rd_wr, rd_wj]
    exact ⟨trivial, trivial, trivial, trivial, trivial, trivial, trivial⟩
  obtain ⟨o1, e1, f1, n1, c1⟩ := copy1_e (o := p) ht (n := gn S g) (by rw [fp.rd (by omega)]; exact hn) h10
  refine ⟨o1, ?_, fp.tr f1.ft, ?_⟩
  · simp (disch := omega) only [↓bd_e, rd_wk, a1, a2, a3, a4, a5, a6, a7]
    rw [← hp, e1, bn_e]
  · have k5 : ∀ j, rd o1 5 t0 j = rd p 5 t0 j := fun j => by
      show o1.1 5 t0 j = p.1 5 t0 j
      rw [f1.1 5 t0 (by omega)]
    refine ⟨(k5 0).trans v.1, (k5 1).trans v.2.1, (k5 2).trans v.2.2.1, (k5 3).trans v.2.2.2.1, (k5 4).trans v.2.2.2.2.1, (k5 5).trans v.2.2.2.2.2.1, (k5 6).trans v.2.2.2.2.2.2, n1, a9.m (fun k j h1 h2 h3 => ?_)⟩
    refine (c1 k j h1 h2 h3).trans ?_
    exact fp.rd (by omega)
