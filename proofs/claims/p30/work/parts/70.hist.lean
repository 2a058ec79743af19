/-! the ring of saved states -/
theorem mod6 {a : Int} (h1 : 0 ≤ a) (h2 : a < 2147483648) : I a - I a / I 6 * I 6 = I (a % 6) := by
  rw [I_div (by omega) h2 (by omega) (by omega), I_mul, I_sub, Int.tdiv_eq_ediv_of_nonneg h1]
  congr 1
  omega
/-- the history: V holds what is saved, oldest first -/
def HC (o : OM) (m b : Nat) (V : Nat → Int → Int) : Prop := m ≤ 6 ∧ b < 6 ∧ rd o 14 0 0 = I (m : Int) ∧ rd o 14 0 1 = I (b : Int) ∧ ∀ i : Nat, i < m → CS o ((b + i) % 6 + 2) (V i)
theorem push_slot {o : OM} {m b : Nat} {V : Nat → Int → Int} (h : HC o m b V) : (rd o 14 0 1 + rd o 14 0 0) - (rd o 14 0 1 + rd o 14 0 0) / I 6 * I 6 = I (((b + m) % 6 : Nat) : Int) := by
  obtain ⟨h1, h2, h3, h4, -⟩ := h
  rw [h3, h4, I_add, mod6 (by omega) (by omega)]
  congr 1
theorem push_e {o : OM} {m b Y : Nat} {S : Int → Int} {V : Nat → Int → Int} (hH : HC o m b V) (hC : CS o 0 S) (hB : SB S Y) (hP : ∀ j, j < 8 → PM o j) : ∃ o1 b', F_X0_push o 0 = some ((), o1) ∧ (∀ k i, ¬ ((2 ≤ i ∧ i < 8 ∧ 1 ≤ k ∧ k ≤ 3) ∨ (2 ≤ i / 6 ∧ 5 ≤ k ∧ k ≤ 13) ∨ (k = 14 ∧ i = 0)) → o1.1 k i = o.1 k i) ∧ o1.2 = o.2 ∧ (if m = 6 then HC o1 6 b' (fun i => if i = 5 then S else V (i + 1)) else HC o1 (m + 1) b' (fun i => if i = m then S else V i)) := by
  have hsl := push_slot hH
  obtain ⟨h1, h2, h3, h4, h5⟩ := hH
  have hs : (b + m) % 6 < 6 := Nat.mod_lt _ (by omega)
  obtain ⟨o1, e1, f1, g1, c1⟩ := copy2_e (j0 := (b + m) % 6 + 2) (j1 := 0) (by omega) hC hB (hP _ (by omega))
  have q0 : rd o1 14 0 0 = I (m : Int) := (congrFun (f1 14 0 (by omega)) 0).trans h3
  have q1 : rd o1 14 0 1 = I (b : Int) := (congrFun (f1 14 0 (by omega)) 1).trans h4
  have z6 : (6 : Int32) = I 6 := rfl
  have z1 : (1 : Int32) = I 1 := rfl
  have d6 : decide (¬ (I 6) = 0) = true := by decide
  have keep : ∀ (o2 : OM), (∀ k i, ¬ (k = 14 ∧ i = 0) → o2.1 k i = o1.1 k i) → (∀ i : Nat, i < m → (b + i) % 6 ≠ (b + m) % 6 → CS o2 ((b + i) % 6 + 2) (V i)) ∧ CS o2 ((b + m) % 6 + 2) S := by
    intro o2 h
    refine ⟨fun i hi hne => ?_, ?_⟩
    · have hi6 : (b + i) % 6 < 6 := Nat.mod_lt _ (by omega)
      exact (h5 i hi).fr (fun k a c => by rw [h _ _ (by omega), f1 _ _ (by omega)]) (fun k t a c d => by rw [h _ _ (by omega), f1 _ _ (by omega)])
    · exact c1.fr (fun k a c => by rw [h _ _ (by omega)]) (fun k t a c d => by rw [h _ _ (by omega)])
  unfold F_X0_push
  rw [z6, z1, d6, grd_e, hsl, I_inB (by omega) (by omega) (by omega), grd_e, I_tcN (by omega), bd_e, e1, bn_e, bd_e, q0]
  by_cases hm : m = 6
  · rw [if_pos (by rw [hm, I_le (by omega) (by omega) (by omega) (by omega)]; omega), grd_e, q1, I_add, mod6 (by omega) (by omega), bd_e]
    refine ⟨_, (b + 1) % 6, rfl, fun k i hk => ?_, g1, ?_⟩
    · rw [wr_ne _ _ (by omega), f1 k i (by omega)]
    · rw [if_pos hm]
      obtain ⟨k1, k2⟩ := keep (wr o1 14 0 1 (I (((b : Int) + 1) % 6))) (fun k i hk => wr_ne _ _ (by omega))
      refine ⟨by omega, Nat.mod_lt _ (by omega), by rw [rd_wj _ _ (by omega), q0, hm], by rw [rd_wr]; rfl, fun i hi => ?_⟩
      dsimp only
      by_cases h : i = 5
      · rw [if_pos h, h, show ((b + 1) % 6 + 5) % 6 = (b + m) % 6 from by omega]
        exact k2
      · rw [if_neg h, show ((b + 1) % 6 + i) % 6 = (b + (i + 1)) % 6 from by omega]
        exact k1 (i + 1) (by omega) (by omega)
  · rw [if_neg (by rw [I_le (by omega) (by omega) (by omega) (by omega)]; omega), I_add, bd_e]
    refine ⟨_, b, rfl, fun k i hk => ?_, g1, ?_⟩
    · rw [wr_ne _ _ (by omega), f1 k i (by omega)]
    · rw [if_neg hm]
      obtain ⟨k1, k2⟩ := keep (wr o1 14 0 0 (I ((m : Int) + 1))) (fun k i hk => wr_ne _ _ (by omega))
      refine ⟨by omega, h2, by rw [rd_wr]; rfl, by rw [rd_wj _ _ (by omega), q1], fun i hi => ?_⟩
      dsimp only
      by_cases h : i = m
      · rw [if_pos h, h]
        exact k2
      · rw [if_neg h]
        exact k1 i (by omega) (by omega)
theorem pop_e {o : OM} {m b Y : Nat} {V : Nat → Int → Int} (hH : HC o (m + 1) b V) (hB : SB (V m) Y) (hP : PM o 0) : ∃ o1, F_X0_popInto o 0 = some ((), o1) ∧ (∀ k i, ¬ ((i = 0 ∧ 1 ≤ k ∧ k ≤ 3) ∨ (i / 6 = 0 ∧ 5 ≤ k ∧ k ≤ 13) ∨ (k = 14 ∧ i = 0)) → o1.1 k i = o.1 k i) ∧ o1.2 = o.2 ∧ HC o1 m b V ∧ CS o1 0 (V m) := by
  obtain ⟨h1, h2, h3, h4, h5⟩ := hH
  have q0 : rd (wr o 14 0 0 (I (m : Int))) 14 0 0 = I (m : Int) := rd_wr _ _ _ _ _
  have q1 : rd (wr o 14 0 0 (I (m : Int))) 14 0 1 = I (b : Int) := by rw [rd_wj _ _ (by omega), h4]
  have hs : (b + m) % 6 < 6 := Nat.mod_lt _ (by omega)
  have hk : ∀ i : Nat, i < m + 1 → CS (wr o 14 0 0 (I (m : Int))) ((b + i) % 6 + 2) (V i) := fun i hi => (h5 i hi).fr (fun k a c => wr_ne _ _ (by omega)) (fun k t a c d => wr_ne _ _ (by omega))
  obtain ⟨o1, e1, f1, g1, c1⟩ := copy2_e (o := wr o 14 0 0 (I (m : Int))) (j0 := 0) (j1 := (b + m) % 6 + 2) (by omega) (hk m (by omega)) hB (fun g hg => by
    obtain ⟨v, v1, v2, v3⟩ := hP g hg
    exact ⟨v, v1, by rw [rd_wk _ _ (by omega)]; exact v2, fun g' hg' e => v3 g' hg' (by rw [rd_wk _ _ (by omega), rd_wk _ _ (by omega)] at e; exact e)⟩)
  have z6 : (6 : Int32) = I 6 := rfl
  have z1 : (1 : Int32) = I 1 := rfl
  have z0 : (0 : Int32) = I 0 := rfl
  have d6 : decide (¬ (I 6) = I 0) = true := by decide
  refine ⟨o1, ?_, fun k i hk' => ?_, g1, ?_, c1⟩
  · unfold F_X0_popInto
    rw [z6, z1, z0, bd_e, h3, if_neg (by rw [I_le (by omega) (by omega) (by omega) (by omega)]; omega), I_sub, show ((m + 1 : Nat) : Int) - 1 = (m : Int) from by omega, bd_e, d6, grd_e, q0, q1, I_add, mod6 (by omega) (by omega), show ((b : Int) + (m : Int)) % 6 = (((b + m) % 6 : Nat) : Int) from rfl, I_inB (by omega) (by omega) (by omega), grd_e, I_tcN (by omega), bd_e, e1, bn_e]
  · rw [f1 k i (by omega), wr_ne _ _ (by omega)]
  · refine ⟨by omega, h2, (congrFun (f1 14 0 (by omega)) 0).trans q0, (congrFun (f1 14 0 (by omega)) 1).trans q1, fun i hi => ?_⟩
    have hi6 : (b + i) % 6 < 6 := Nat.mod_lt _ (by omega)
    exact (hk i (by omega)).fr (fun k a c => f1 _ _ (by omega)) (fun k t a c d => f1 _ _ (by omega))
