/-! corrections rise; overlaps; the worst degree -/
theorem and_nn (a : Int32) : 0 ≤ (a &&& 2147483647).toInt := by
  have h : (a &&& 2147483647).toBitVec.msb = false := by
    rw [Int32.toBitVec_and, BitVec.msb_and]
    have : (2147483647 : Int32).toBitVec.msb = false := by decide
    rw [this, Bool.and_false]
  have h2 : (a &&& 2147483647).toInt = (a &&& 2147483647).toBitVec.toInt := rfl
  rw [h2]
  rw [BitVec.msb_eq_toInt] at h
  have := of_decide_eq_false h
  omega
theorem lw_rg (a : Int32) {m : Int} (h1 : 0 < m) (h2 : m < 2147483648) : ∃ t : Int, 0 ≤ t ∧ t < m ∧ lw a (I m) = I t := by
  obtain ⟨c, hc⟩ : ∃ c, c = (a &&& 2147483647).toInt := ⟨_, rfl⟩
  have h0 := and_nn a
  rw [← hc] at h0
  have h3 := toI_hi (a &&& 2147483647)
  rw [← hc] at h3
  refine ⟨c % m, Int.emod_nonneg _ (by omega), Int.emod_lt_of_pos _ h1, ?_⟩
  unfold lw
  rw [show a &&& 2147483647 = I c from by rw [hc, I_toI], md_e h0 h3 h1 h2]
section
variable {r d y : Nat → Int} {n : Nat}
theorem dv_mono {a b c : Int} (h : a ≤ b) (hc : 0 < c) : a / c ≤ b / c := Int.ediv_le_ediv hc h
theorem lin_mono {x x' : Int} {a b : Nat} (hd : d a ≤ d b) (hr : r a < r b) (h : x ≤ x') : lin r d x a b ≤ lin r d x' a b := by
  unfold lin
  have h1 : (d b - d a) * (x - r a) ≤ (d b - d a) * (x' - r a) := Int.mul_le_mul_of_nonneg_left (by omega) (by omega)
  have h2 := dv_mono h1 (show 0 < r b - r a by omega)
  omega
theorem lin_at_b {a b : Nat} (hr : r a < r b) : lin r d (r b) a b = d b := by
  unfold lin
  rw [Int.mul_ediv_cancel _ (by omega)]
  omega
theorem lin_at_a {a b : Nat} : lin r d (r a) a b = d a := by
  unfold lin
  rw [Int.sub_self, Int.mul_zero, Int.zero_ediv, Int.add_zero]
theorem corf_mono (hB : PB n r d y) (h2 : 2 ≤ n) (hs : Sj r n) {x x' : Int} (h : x ≤ x') : corf r d n x ≤ corf r d n x' := by
  obtain ⟨-, hd, -, hi, -⟩ := hB
  have p := corf_pair (d := d) h2 hs x
  have p' := corf_pair (d := d) h2 hs x'
  show lin r d x _ _ ≤ lin r d x' _ _
  generalize oi r n (plc r n x) = a at p ⊢
  generalize oi r n (plc r n x + 1) = b at p ⊢
  generalize oi r n (plc r n x') = a' at p' ⊢
  generalize oi r n (plc r n x' + 1) = b' at p' ⊢
  obtain ⟨a1, a2, a3, a4, a5, a6⟩ := p
  obtain ⟨c1, c2, c3, c4, c5, c6⟩ := p'
  have dab := (hi a b a1 a2).mp a3
  have dab' := (hi a' b' c1 c2).mp c3
  by_cases l : r a < r a'
  · have l1 : r b ≤ r a' := by
      have := a4 a' c1
      omega
    have xb : x ≤ r b := by
      rcases a6 with h | h
      · omega
      · have := h b' c2
        omega
    have xa : r a' ≤ x' := by
      rcases c5 with h | h
      · exact h
      · have := h a a1
        omega
    have e1 := lin_mono (d := d) (Int.le_of_lt dab) a3 xb
    have e2 := lin_mono (d := d) (Int.le_of_lt dab') c3 xa
    rw [lin_at_b a3] at e1
    rw [lin_at_a] at e2
    have e3 : d b ≤ d a' := by
      by_cases q : r b = r a'
      · rw [hd b a' a2 c1 q]
        exact Int.le_refl _
      · exact Int.le_of_lt ((hi b a' a2 c1).mp (by omega))
    omega
  · by_cases l2 : r a' < r a
    · exfalso
      have l1 : r b' ≤ r a := by
        have := c4 a a1
        omega
      have h1 : x' < r b' := by
        rcases c6 with h | h
        · exact h
        · have := h b a2
          omega
      have h3 : r a ≤ x := by
        rcases a5 with h | h
        · exact h
        · have := h a' c1
          omega
      omega
    · have ea : a = a' := hd a a' a1 c1 (by omega)
      subst ea
      have eb : b = b' := by
        have q1 := a4 b' c2
        have q2 := c4 b a2
        exact hd b b' a2 c2 (by omega)
      subst eb
      exact lin_mono (Int.le_of_lt dab) a3 h
theorem corf_in (hB : PB n r d y) (h2 : 2 ≤ n) (hs : Sj r n) (hr : ∀ k, k < n → -999 ≤ r k ∧ r k ≤ 1999) {x : Int} (hx : -999 ≤ x ∧ x ≤ 1999) : -9000000 ≤ corf r d n x ∧ corf r d n x ≤ 9000000 := by
  have p := corf_pair (d := d) h2 hs x
  show -9000000 ≤ lin r d x _ _ ∧ lin r d x _ _ ≤ _
  generalize oi r n (plc r n x) = a at p ⊢
  generalize oi r n (plc r n x + 1) = b at p ⊢
  obtain ⟨a1, a2, a3, -⟩ := p
  have ba := (hB.2.2.2.2 a a1).2.1
  have bb := (hB.2.2.2.2 b a2).2.1
  have ra := hr a a1
  have m := mul_rg (p := d b - d a) (q := x - r a) (P := 1900) (Q := 2998) (by omega) (by omega) (by omega) (by omega)
  have e := ediv_rg (a := (d b - d a) * (x - r a)) (b := r b - r a) (by omega) (M := 1900 * 2998) m.1 m.2
  unfold lin
  omega
end
section
variable {S : Int → Int} {Y g h : Nat}
theorem ovl_sym (S : Int → Int) (g h : Nat) (z : Int) : ovl S g h z = ovl S h g z := by
  unfold ovl
  by_cases c : gn S g < 2 ∨ gn S h < 2
  · rw [if_pos c, if_pos (Or.symm c)]
  · rw [if_neg c, if_neg (fun z => c (Or.symm z))]
    dsimp only
    split <;> split <;> omega
theorem ovl_nn (S : Int → Int) {g h : Nat} (z : Int) (c : ¬ (gn S g < 2 ∨ gn S h < 2)) : 0 ≤ ovl S g h z := by
  unfold ovl
  rw [if_neg c]
  dsimp only
  split <;> omega
theorem ovl_none (S : Int → Int) {g h : Nat} (z : Int) (c : gn S g < 2 ∨ gn S h < 2) : ovl S g h z = -1 := by
  unfold ovl
  rw [if_pos c]
theorem ovl_own (S : Int → Int) (g : Nat) (z : Int) : ovl S g g z = if 2 ≤ gn S g then 0 else -1 := by
  unfold ovl
  by_cases c : 2 ≤ gn S g
  · rw [if_neg (by omega), if_pos c]
    dsimp only
    split <;> omega
  · rw [if_pos (by omega), if_neg c]
theorem rdg_mono (hG : GB S g Y) (z : Int) : rdg S g z ≤ rdg S g (z + 1) := by
  obtain ⟨b1, b2, -⟩ := hG
  have m1 : z * (1000 + S (38 * (g : Int) + 1)) ≤ (z + 1) * (1000 + S (38 * (g : Int) + 1)) := Int.mul_le_mul_of_nonneg_right (by omega) (by omega)
  have m2 := dv_mono m1 (show (0 : Int) < 1000 by omega)
  unfold rdg
  omega
/-- the first of the greatest among the first k -/
def Bst (F : Nat → Int) (k b : Nat) : Prop := b < k ∧ (∀ j, j < k → F j ≤ F b) ∧ ∀ j, j < b → F j < F b
def ovs (S : Int → Int) (g h : Nat) : Nat → Int := fun j => ovl S g h (-400 + 100 * (j : Int))
theorem wsp_sp (S : Int → Int) (g h : Nat) : ∀ (n k b : Nat), k + n = 20 → Bst (ovs S g h) k b → ∃ b', Bst (ovs S g h) 20 b' ∧ wsp S g h n (-400 + 100 * (b : Int) + 10000) (ovs S g h b) (-400 + 100 * (k : Int)) = -400 + 100 * (b' : Int) + 10000
  | 0, k, b, hk, hb => by
    obtain rfl : k = 20 := by omega
    exact ⟨b, hb, rfl⟩
  | n + 1, k, b, hk, hb => by
    obtain ⟨b1, b2, b3⟩ := hb
    have e : wsp S g h (n + 1) (-400 + 100 * (b : Int) + 10000) (ovs S g h b) (-400 + 100 * (k : Int)) = if ovl S g h (-400 + 100 * (k : Int)) ≤ ovs S g h b then wsp S g h n (-400 + 100 * (b : Int) + 10000) (ovs S g h b) (-400 + 100 * (k : Int) + 100) else wsp S g h n (-400 + 100 * (k : Int) + 10000) (ovl S g h (-400 + 100 * (k : Int))) (-400 + 100 * (k : Int) + 100) := rfl
    have ek : -400 + 100 * (k : Int) + 100 = -400 + 100 * ((k + 1 : Nat) : Int) := by omega
    rw [e, ek]
    by_cases c : ovl S g h (-400 + 100 * (k : Int)) ≤ ovs S g h b
    · rw [if_pos c]
      refine wsp_sp S g h n (k + 1) b (by omega) ⟨by omega, fun j hj => ?_, b3⟩
      by_cases q : j = k
      · rw [q]; exact c
      · exact b2 j (by omega)
    · rw [if_neg c]
      have c' : ovs S g h b < ovs S g h k := by
        show _ < ovl S g h (-400 + 100 * (k : Int))
        omega
      refine wsp_sp S g h n (k + 1) k (by omega) ⟨by omega, fun j hj => ?_, fun j hj => ?_⟩
      · by_cases q : j = k
        · rw [q]; exact Int.le_refl _
        · have := b2 j (by omega)
          omega
      · have := b2 j (by omega)
        omega
theorem wst_y (S : Int → Int) {g h : Nat} (c : ¬ (gn S g < 2 ∨ gn S h < 2)) : ∃ b, Bst (ovs S g h) 20 b ∧ wst S g h = -400 + 100 * (b : Int) + 10000 := by
  have e : wst S g h = if ovl S g h (-400) ≤ -1 then wsp S g h 19 (-1) (-1) (-400 + 100) else wsp S g h 19 (-400 + 10000) (ovl S g h (-400)) (-400 + 100) := rfl
  have n := ovl_nn S (-400) c
  rw [e, if_neg (by omega)]
  exact wsp_sp S g h 19 1 0 rfl ⟨by omega, fun j hj => by
    obtain rfl : j = 0 := by omega
    exact Int.le_refl _, fun j hj => by omega⟩
theorem wsp_no (S : Int → Int) {g h : Nat} (c : gn S g < 2 ∨ gn S h < 2) : ∀ (n : Nat) (z : Int), wsp S g h n (-1) (-1) z = -1
  | 0, _ => rfl
  | n + 1, z => by
    have e : wsp S g h (n + 1) (-1) (-1) z = if ovl S g h z ≤ -1 then wsp S g h n (-1) (-1) (z + 100) else wsp S g h n (z + 10000) (ovl S g h z) (z + 100) := rfl
    rw [e, ovl_none S z c, if_pos (by omega)]
    exact wsp_no S c n (z + 100)
theorem wst_n (S : Int → Int) {g h : Nat} (c : gn S g < 2 ∨ gn S h < 2) : wst S g h = -1 := wsp_no S c 20 (-400)
end
