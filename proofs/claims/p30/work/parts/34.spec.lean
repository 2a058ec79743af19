/-! what the looks give, as numbers -/
def below (r : Nat → Int) (n : Nat) (x : Int) : Nat := cnt (fun k => decide (r k ≤ x)) n
def plc (r : Nat → Int) (n : Nat) (x : Int) : Nat := if below r n x = 0 then 0 else if below r n x = n then n - 2 else below r n x - 1
def corf (r d : Nat → Int) (n : Nat) (x : Int) : Int := lin r d x (oi r n (plc r n x)) (oi r n (plc r n x + 1))
theorem plc_rg {r : Nat → Int} {n : Nat} (h2 : 2 ≤ n) (x : Int) : plc r n x + 1 < n := by
  have := cnt_le (fun k => decide (r k ≤ x)) n
  have e : below r n x = cnt (fun k => decide (r k ≤ x)) n := rfl
  unfold plc
  split
  · omega
  · split <;> omega
theorem corf_pair {r d : Nat → Int} {n : Nat} (h2 : 2 ≤ n) (hs : Sj r n) (x : Int) : Pair r n x (oi r n (plc r n x)) (oi r n (plc r n x + 1)) := by
  have hp := plc_rg (r := r) h2 x
  have g1 := oi_sp hs (p := plc r n x) (by omega)
  have g2 := oi_sp hs (p := plc r n x + 1) (by omega)
  have hadj := rank_adj (r := r) (n := n) g1.1 g2.1 (by rw [g1.2, g2.2])
  have hbl := cnt_le (fun k => decide (r k ≤ x)) n
  have e : below r n x = cnt (fun k => decide (r k ≤ x)) n := rfl
  refine ⟨g1.1, g2.1, hadj.1, hadj.2, ?_, ?_⟩
  · by_cases hx : r (oi r n (plc r n x)) ≤ x
    · exact Or.inl hx
    · right
      apply rank_low
      rw [g1.2]
      have h : below r n x ≤ rank r n (oi r n (plc r n x)) := by
        apply cnt_mono
        intro i hi hq
        simp at hq ⊢
        omega
      rw [g1.2] at h
      unfold plc at h ⊢
      split at h
      · rename_i h0
        rw [if_pos h0]
      · split at h <;> omega
  · by_cases hx : x < r (oi r n (plc r n x + 1))
    · exact Or.inl hx
    · right
      apply rank_top g2.1
      rw [g2.2]
      have h : rank r n (oi r n (plc r n x + 1)) < below r n x := by
        apply cnt_lt (j := oi r n (plc r n x + 1)) ?_ g2.1
        · simp
        · simpa using hx
        · intro i hi hq
          simp at hq ⊢
          omega
      rw [g2.2] at h
      unfold plc at h ⊢
      split at h
      · omega
      · rename_i h0
        split at h
        · rename_i h3
          rw [if_neg h0, if_pos h3]
          omega
        · omega
theorem corf_u {r d y : Nat → Int} {n : Nat} (hB : PB n r d y) (h2 : 2 ≤ n) (hs : Sj r n) {x v : Int} (h : Cor r d n x v) : v = corf r d n x :=
  Cor_u hB.2.1 h ⟨_, _, corf_pair (d := d) h2 hs x, rfl⟩
theorem corf_rg {r d y : Nat → Int} {n : Nat} (hB : PB n r d y) (h2 : 2 ≤ n) (hs : Sj r n) {x : Int} (hx1 : -200000 ≤ x) (hx2 : x ≤ 200000) : -600000000 ≤ corf r d n x ∧ corf r d n x ≤ 600000000 :=
  Cor_rg hB hx1 hx2 ⟨_, _, corf_pair (d := d) h2 hs x, rfl⟩
def ixf (d : Nat → Int) (z : Int) : Nat → Int
  | 0 => -1
  | n + 1 => if d n = z then (n : Int) else ixf d z n
theorem ixf_sp (d : Nat → Int) (z : Int) (n : Nat) : IX d n z (ixf d z n) := by
  induction n with
  | zero => exact Or.inl ⟨rfl, fun i hi => by omega⟩
  | succ n ih =>
    have e : ixf d z (n + 1) = if d n = z then (n : Int) else ixf d z n := rfl
    rw [e]
    by_cases h : d n = z
    · rw [if_pos h]
      exact Or.inr ⟨n, by omega, rfl, h⟩
    · rw [if_neg h]
      rcases ih with ⟨g1, g2⟩ | ⟨k, g1, g2, g3⟩
      · refine Or.inl ⟨g1, fun j hj => ?_⟩
        by_cases e : j = n
        · rw [e]; exact h
        · exact g2 j (by omega)
      · exact Or.inr ⟨k, by omega, g2, g3⟩
theorem ixf_rg (d : Nat → Int) (z : Int) (n : Nat) : -1 ≤ ixf d z n ∧ ixf d z n < (n : Int) ∧ (n = 0 → ixf d z n = -1) := by
  have := IX_rg (ixf_sp d z n)
  omega
noncomputable def crf (r d : Nat → Int) (n : Nat) (x z : Int) : Int := @ite Int (Crs r d n x z) (Classical.propDecidable _) 1 0
theorem crf_rg (r d : Nat → Int) (n : Nat) (x z : Int) : crf r d n x z = 0 ∨ crf r d n x z = 1 := by
  unfold crf
  split
  · exact Or.inr rfl
  · exact Or.inl rfl
theorem crf_of {r d : Nat → Int} {n : Nat} {x z : Int} {F : Option Int32} (h : (Crs r d n x z ∧ F = some (I 1)) ∨ (¬ Crs r d n x z ∧ F = some (I 0))) : F = some (I (crf r d n x z)) := by
  unfold crf
  rcases h with ⟨h1, h2⟩ | ⟨h1, h2⟩
  · rw [if_pos h1, h2]
  · rw [if_neg h1, h2]
/-! one thermometer in the row of numbers -/
def gn (S : Int → Int) (g : Nat) : Nat := (S (38 * (g : Int) + 7)).toNat
def GB (S : Int → Int) (g Y : Nat) : Prop :=
  (-50 ≤ S (38 * (g : Int) + 0) ∧ S (38 * (g : Int) + 0) ≤ 50) ∧ (-50 ≤ S (38 * (g : Int) + 1) ∧ S (38 * (g : Int) + 1) ≤ 50) ∧ (0 ≤ S (38 * (g : Int) + 2) ∧ S (38 * (g : Int) + 2) ≤ 3) ∧
  (0 ≤ S (38 * (g : Int) + 3) ∧ S (38 * (g : Int) + 3) ≤ (Y : Int)) ∧ (0 ≤ S (38 * (g : Int) + 4) ∧ S (38 * (g : Int) + 4) ≤ 3600 ∧ S (38 * (g : Int) + 4) ≤ 60 * S (38 * (g : Int) + 3)) ∧
  (-1 ≤ S (38 * (g : Int) + 5) ∧ S (38 * (g : Int) + 5) ≤ (Y : Int)) ∧ (0 ≤ S (38 * (g : Int) + 6) ∧ S (38 * (g : Int) + 6) ≤ S (38 * (g : Int) + 4)) ∧ S (38 * (g : Int) + 7) = (gn S g : Int) ∧
  PB (gn S g) (pr S g) (pd S g) (py S g) ∧ Sj (pr S g) (gn S g) ∧ ∀ k, k < gn S g → py S g k ≤ (Y : Int)
def SB (S : Int → Int) (Y : Nat) : Prop :=
  (0 ≤ S 228 ∧ S 228 ≤ 6) ∧ (∀ k : Int, 0 ≤ k → k < 4 → -400 ≤ S (229 + k) ∧ S (229 + k) ≤ 1500) ∧ (0 ≤ S 233 ∧ S 233 ≤ (Y : Int)) ∧ (0 ≤ S 234 ∧ S 234 ≤ (Y : Int)) ∧
  (∀ k : Int, 0 ≤ k → k < 7 → 0 ≤ S (235 + k) ∧ S (235 + k) ≤ (if k < 4 then 60 else if k = 4 then 20 else 100)) ∧ (-1 ≤ S 242 ∧ S 242 ≤ 60) ∧ (-1 ≤ S 243 ∧ S 243 ≤ 8) ∧ ∀ g : Nat, (g : Int) < S 228 → GB S g Y
def rdg (S : Int → Int) (g : Nat) (z : Int) : Int := z * (1000 + S (38 * (g : Int) + 1)) / 1000 + S (38 * (g : Int) + 0) + S (38 * (g : Int) + 4)
theorem rdg_rg {S : Int → Int} {g Y : Nat} (h : GB S g Y) {z : Int} (h1 : -400 ≤ z) (h2 : z ≤ 1500) : (-2000000 ≤ z * (1000 + S (38 * (g : Int) + 1)) ∧ z * (1000 + S (38 * (g : Int) + 1)) ≤ 2000000) ∧ -10000 ≤ rdg S g z ∧ rdg S g z ≤ 10000 := by
  obtain ⟨a1, a2, a3, a4, a5, -⟩ := h
  have m := mul_rg (p := z) (q := 1000 + S (38 * (g : Int) + 1)) (P := 1500) (Q := 1050) (by omega) (by omega) (by omega) (by omega)
  unfold rdg
  omega
def Val (S : Int → Int) (g : Nat) : Prop := ¬ S (38 * (g : Int) + 5) = -1 ∧ ¬ S 241 < S (38 * (g : Int) + 4) - S (38 * (g : Int) + 6)
def val (S : Int → Int) (g : Nat) : Int := if ¬ S (38 * (g : Int) + 5) = -1 ∧ ¬ S 241 < S (38 * (g : Int) + 4) - S (38 * (g : Int) + 6) then 1 else 0
theorem val_01 (S : Int → Int) (g : Nat) : val S g = 0 ∨ val S g = 1 := by
  unfold val
  split
  · exact Or.inr rfl
  · exact Or.inl rfl
def ovl (S : Int → Int) (g h : Nat) (z : Int) : Int :=
  if gn S g < 2 ∨ gn S h < 2 then -1 else (let v := corf (pr S g) (pd S g) (gn S g) (rdg S g z) - corf (pr S h) (pd S h) (gn S h) (rdg S h z); if v < 0 then -v else v)
noncomputable def hnd (S : Int → Int) (g : Nat) (z : Int) : Int :=
  if gn S g = 10 ∧ ixf (pd S g) z (gn S g) = -1 then 1 else if crf (pr S g) (pd S g) (gn S g) (rdg S g z) z = 0 then 0 else 2
theorem hnd_rg (S : Int → Int) (g : Nat) (z : Int) : 0 ≤ hnd S g z ∧ hnd S g z ≤ 2 := by
  unfold hnd
  split
  · omega
  · split <;> omega
theorem ovl_rg {S : Int → Int} {g h Y : Nat} (hg : GB S g Y) (hh : GB S h Y) {z : Int} (h1 : -400 ≤ z) (h2 : z ≤ 1500) : -1 ≤ ovl S g h z ∧ ovl S g h z ≤ 1200000000 := by
  unfold ovl
  split
  · omega
  · rename_i hn
    have r1 := (rdg_rg hg h1 h2).2
    have r2 := (rdg_rg hh h1 h2).2
    have c1 := corf_rg hg.2.2.2.2.2.2.2.2.1 (by omega) hg.2.2.2.2.2.2.2.2.2.1 (x := rdg S g z) (by omega) (by omega)
    have c2 := corf_rg hh.2.2.2.2.2.2.2.2.1 (by omega) hh.2.2.2.2.2.2.2.2.2.1 (x := rdg S h z) (by omega) (by omega)
    dsimp only
    split <;> omega
