/-! a point more or less, on the row of numbers -/
theorem Sj_all {r : Nat → Int} : ∀ n : Nat, Ds r n → Sj r n
  | 0, _ => fun p hp => by omega
  | n + 1, hd => by
    have hs := Sj_all n (hd.le (by omega))
    have hcn : rank r n n ≤ n := cnt_le _ n
    intro p hp
    by_cases h1 : p = rank r n n
    · refine ⟨n, by omega, ?_⟩
      rw [rank_s, if_neg (by omega), h1]
      rfl
    · by_cases h2 : p < rank r n n
      · have hp2 : p < n := by omega
        have ho := oi_sp hs hp2
        have hab := oi_above hd hs hp2
        refine ⟨oi r n p, by omega, ?_⟩
        rw [rank_s, if_neg (fun z => by have := hab.mp z; omega), ho.2]
        rfl
      · have hp2 : p - 1 < n := by omega
        have ho := oi_sp hs hp2
        have hab := oi_above hd hs hp2
        refine ⟨oi r n (p - 1), by omega, ?_⟩
        rw [rank_s, if_pos (hab.mpr (by omega)), ho.2]
        omega
section
variable {S : Int → Int} {g Y q : Nat}
theorem cutS_lo (S : Int → Int) (g q : Nat) {a : Int} (h : a < 38 * (g : Int) + 7 ∨ 38 * (g : Int) + 35 ≤ a) : cutS S g q a = S a := by
  unfold cutS
  rw [if_neg (by omega), if_neg (by omega)]
theorem cutS_gn (hn : S (38 * (g : Int) + 7) = (gn S g : Int)) (hq : q < gn S g) : gn (cutS S g q) g = gn S g - 1 := by
  show Int.toNat _ = _
  unfold cutS
  rw [if_pos rfl, hn]
  omega
theorem cutS_hi (S : Int → Int) (g q : Nat) {a : Int} (h1 : 38 * (g : Int) + 8 ≤ a) (h2 : a < 38 * (g : Int) + 35) : cutS S g q a = if 38 * (g : Int) + 8 + 3 * (q : Int) ≤ a then S (a + 3) else S a := by
  unfold cutS
  rw [if_neg (by omega)]
  by_cases h : 38 * (g : Int) + 8 + 3 * (q : Int) ≤ a
  · rw [if_pos h, if_pos ⟨h, h2⟩]
  · rw [if_neg h, if_neg (fun z => h z.1)]
theorem cutS_p (S : Int → Int) (g q : Nat) {k : Nat} (hk : k < 9) : pr (cutS S g q) g k = cutf q (pr S g) k ∧ pd (cutS S g q) g k = cutf q (pd S g) k ∧ py (cutS S g q) g k = cutf q (py S g) k := by
  have e1 := cutS_hi S g q (a := 38 * (g : Int) + (8 + 3 * (k : Int))) (by omega) (by omega)
  have e2 := cutS_hi S g q (a := 38 * (g : Int) + (8 + 3 * (k : Int)) + 1) (by omega) (by omega)
  have e3 := cutS_hi S g q (a := 38 * (g : Int) + (8 + 3 * (k : Int)) + 2) (by omega) (by omega)
  have f1 : pr (cutS S g q) g k = if k < q then pr S g k else pr S g (k + 1) := by
    refine Eq.trans e1 ?_
    by_cases h : k < q
    · rw [if_pos h, if_neg (by omega)]; rfl
    · rw [if_neg h, if_pos (by omega)]
      unfold pr
      congr 1
  have f2 : pd (cutS S g q) g k = if k < q then pd S g k else pd S g (k + 1) := by
    refine Eq.trans e2 ?_
    by_cases h : k < q
    · rw [if_pos h, if_neg (by omega)]; rfl
    · rw [if_neg h, if_pos (by omega)]
      unfold pd
      congr 1
  have f3 : py (cutS S g q) g k = if k < q then py S g k else py S g (k + 1) := by
    refine Eq.trans e3 ?_
    by_cases h : k < q
    · rw [if_pos h, if_neg (by omega)]; rfl
    · rw [if_neg h, if_pos (by omega)]
      unfold py
      congr 1
  exact ⟨f1, f2, f3⟩
theorem PB.c' {n : Nat} {r d y r' d' y' : Nat → Int} (h : PB n r d y) (e : ∀ k, k < n → r' k = r k ∧ d' k = d k ∧ y' k = y k) : PB n r' d' y' := by
  obtain ⟨h1, h2, h3, h4, h5⟩ := h
  refine ⟨h1, fun i j hi hj g => h2 i j hi hj (by rw [← (e i (by omega)).1, ← (e j (by omega)).1]; exact g), fun i j hi hj g => h3 i j hi hj (by rw [← (e i (by omega)).2.1, ← (e j (by omega)).2.1]; exact g), fun i j hi hj => by rw [(e i (by omega)).1, (e j (by omega)).1, (e i (by omega)).2.1, (e j (by omega)).2.1]; exact h4 i j hi hj, fun k hk => by rw [(e k (by omega)).1, (e k (by omega)).2.1, (e k (by omega)).2.2]; exact h5 k hk⟩
theorem GB.cut (hG : GB S g Y) (hq : q < gn S g) : GB (cutS S g q) g Y := by
  have egn := cutS_gn hG.n hq
  obtain ⟨a1, a2, a3, a4, a5, a6, a7, a8, a9, a10, a11⟩ := hG
  have hn := a9.1
  have hp := fun (k : Nat) (hk : k < 9) => cutS_p S g q hk
  have e7 : cutS S g q (38 * (g : Int) + 7) = (gn (cutS S g q) g : Int) := by
    rw [egn]
    unfold cutS
    rw [if_pos rfl, a8]
    omega
  have hPB : PB (gn S g - 1) (pr (cutS S g q) g) (pd (cutS S g q) g) (py (cutS S g q) g) := (cut_PB a9 hq).c' (fun k hk => hp k (by omega))
  unfold GB
  rw [cutS_lo S g q (a := 38 * (g : Int) + 0) (by omega), cutS_lo S g q (a := 38 * (g : Int) + 1) (by omega), cutS_lo S g q (a := 38 * (g : Int) + 2) (by omega), cutS_lo S g q (a := 38 * (g : Int) + 3) (by omega), cutS_lo S g q (a := 38 * (g : Int) + 4) (by omega), cutS_lo S g q (a := 38 * (g : Int) + 5) (by omega), cutS_lo S g q (a := 38 * (g : Int) + 6) (by omega), egn]
  refine ⟨a1, a2, a3, a4, a5, a6, a7, by rw [← egn]; exact e7, hPB, Sj_all _ hPB.2.1, fun k hk => ?_⟩
  rw [(hp k (by omega)).2.2]
  unfold cutf
  split
  · exact a11 k (by omega)
  · exact a11 (k + 1) (by omega)
theorem dropS_or (hG : GB S g Y) (z : Int) : (ixf (pd S g) z (gn S g) = -1 ∧ dropS S g z = S) ∨ ∃ q : Nat, q < gn S g ∧ ixf (pd S g) z (gn S g) = (q : Int) ∧ pd S g q = z ∧ dropS S g z = cutS S g q := by
  unfold dropS
  rcases ixf_sp (pd S g) z (gn S g) with ⟨h1, h2⟩ | ⟨q, h1, h2, h3⟩
  · left
    exact ⟨h1, by rw [if_pos h1]⟩
  · right
    refine ⟨q, h1, h2, h3, ?_⟩
    rw [if_neg (by omega), h2, Int.toNat_natCast]
theorem GB.drop (hG : GB S g Y) (z : Int) : GB (dropS S g z) g Y := by
  rcases dropS_or hG z with ⟨-, e⟩ | ⟨q, hq, -, -, e⟩
  · rw [e]; exact hG
  · rw [e]; exact hG.cut hq
theorem dropS_lo (hG : GB S g Y) (z : Int) {a : Int} (h : a < 38 * (g : Int) + 7 ∨ 38 * (g : Int) + 35 ≤ a) : dropS S g z a = S a := by
  rcases dropS_or hG z with ⟨-, e⟩ | ⟨q, hq, -, -, e⟩
  · rw [e]
  · rw [e]; exact cutS_lo S g q h
end
