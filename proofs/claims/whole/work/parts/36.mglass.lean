/-! one thermometer of the model: its looks -/
def gm (S : Int → Int) : Nat := (S 228).toNat
theorem SB.m {S : Int → Int} {Y : Nat} (h : SB S Y) : S 228 = (gm S : Int) ∧ gm S ≤ 6 := by
  have := h.1
  unfold gm
  omega
theorem SB.g {S : Int → Int} {Y g : Nat} (h : SB S Y) (hg : g < gm S) : GB S g Y := by
  have := h.m
  exact h.2.2.2.2.2.2.2 g (by omega)
theorem GB.n {S : Int → Int} {Y g : Nat} (h : GB S g Y) : S (38 * (g : Int) + 7) = (gn S g : Int) := h.2.2.2.2.2.2.2.1
theorem GB.p {S : Int → Int} {Y g : Nat} (h : GB S g Y) : PB (gn S g) (pr S g) (pd S g) (py S g) := h.2.2.2.2.2.2.2.2.1
theorem GB.s {S : Int → Int} {Y g : Nat} (h : GB S g Y) : Sj (pr S g) (gn S g) := h.2.2.2.2.2.2.2.2.2.1
noncomputable def oldf (S : Int → Int) (g : Nat) (z : Int) : Int := if S 239 < S 233 - py S g (ixf (pd S g) z (gn S g)).toNat then 1 else 0
def Dif (S : Int → Int) (g m : Nat) : Prop := ∃ h : Nat, h < m ∧ h ≠ g ∧ S (38 * (h : Int) + 2) = S (38 * (g : Int) + 2) ∧ val S h = 1 ∧ S 240 < ovl S g h 500
noncomputable def dif (S : Int → Int) (g : Nat) : Int := @ite Int (Dif S g (gm S)) (Classical.propDecidable _) 1 0
noncomputable def ref (S : Int → Int) (g : Nat) : Int :=
  if ixf (pd S g) 0 (gn S g) = -1 ∨ ixf (pd S g) 1000 (gn S g) = -1 then 3 else if oldf S g 0 = 1 ∨ oldf S g 1000 = 1 then 4 else if val S g = 1 then 5 else if dif S g = 1 then 6 else 0
theorem ref_rg (S : Int → Int) (g : Nat) : 0 ≤ ref S g ∧ ref S g ≤ 6 := by
  unfold ref
  split
  · omega
  · split
    · omega
    · split
      · omega
      · split <;> omega
def snc (S : Int → Int) (g : Nat) : Nat → Int
  | 0 => S (38 * (g : Int) + 4) - S (38 * (g : Int) + 6)
  | n + 1 => snc S g n + S (235 + S (38 * (g : Int) + 2)) / (S (38 * (g : Int) + 3) + (n : Int) + 1)
def frs (p : Nat → Bool) : Nat → Nat → Int
  | 0, _ => -1
  | f + 1, i => if p i = true then (i : Int) else frs p f (i + 1)
def vdf (S : Int → Int) (g : Nat) : Int := if S (38 * (g : Int) + 5) = -1 then -1 else frs (fun n => decide (S 241 < snc S g n)) 51 0
theorem frs_rg (p : Nat → Bool) : ∀ f i, -1 ≤ frs p f i ∧ frs p f i < ((i + f : Nat) : Int) + 1
  | 0, i => by show -1 ≤ (-1 : Int) ∧ (-1 : Int) < _; omega
  | f + 1, i => by
    have := frs_rg p f (i + 1)
    unfold frs
    split <;> omega
theorem snc_rg {S : Int → Int} {g Y : Nat} (hB : SB S Y) (h : GB S g Y) : ∀ n : Nat, 0 ≤ snc S g n ∧ snc S g n ≤ 3600 + 60 * (n : Int) ∧ 0 ≤ S (235 + S (38 * (g : Int) + 2)) ∧ S (235 + S (38 * (g : Int) + 2)) ≤ 60 := by
  obtain ⟨a1, a2, a3, a4, a5, a6, a7, -⟩ := h
  have hk := hB.2.2.2.2.1 (S (38 * (g : Int) + 2)) (by omega) (by omega)
  rw [if_pos (by omega)] at hk
  intro n
  induction n with
  | zero => unfold snc; omega
  | succ n ih =>
    have h1 : 0 ≤ S (235 + S (38 * (g : Int) + 2)) / (S (38 * (g : Int) + 3) + (n : Int) + 1) := Int.ediv_nonneg (by omega) (by omega)
    have h2 : S (235 + S (38 * (g : Int) + 2)) / (S (38 * (g : Int) + 3) + (n : Int) + 1) ≤ S (235 + S (38 * (g : Int) + 2)) := Int.ediv_le_self _ (by omega)
    unfold snc
    omega
def sm (f : Nat → Int) : Nat → Int
  | 0 => 0
  | n + 1 => sm f n + f n
theorem sm_rg {f : Nat → Int} {M : Int} {n : Nat} (h : ∀ k, k < n → 0 ≤ f k ∧ f k ≤ M) (hM : 0 ≤ M) : 0 ≤ sm f n ∧ sm f n ≤ M * (n : Int) := by
  induction n with
  | zero => exact ⟨Int.le_refl 0, by show (0 : Int) ≤ M * 0; omega⟩
  | succ n ih =>
    have h1 := ih (fun k hk => h k (by omega))
    have h2 := h n (by omega)
    have h3 : M * ((n + 1 : Nat) : Int) = M * (n : Int) + M := by
      rw [show ((n + 1 : Nat) : Int) = (n : Int) + 1 from rfl, Int.mul_add, Int.mul_one]
    show 0 ≤ sm f n + f n ∧ sm f n + f n ≤ _
    omega
theorem sm_c {f f' : Nat → Int} {n : Nat} (h : ∀ k, k < n → f k = f' k) : sm f n = sm f' n := by
  induction n with
  | zero => rfl
  | succ n ih =>
    show sm f n + f n = sm f' n + f' n
    rw [ih (fun k hk => h k (by omega)), h n (by omega)]
section
variable {o : OM} {S : Int → Int} {g Y : Nat}
theorem readingOf_e (hS : MS o S) (h : GB S g Y) (hg : g < 6) {z : Int} (h1 : -400 ≤ z) (h2 : z ≤ 1500) : F_X6_readingOf o (I (g : Int)) (I z) = some (I (rdg S g z)) := by
  have hr := rdg_rg h h1 h2
  have hg' : ∀ w : Int, 0 ≤ w → w < 38 → F_X6_get o (I (g : Int)) (I w) = some (I (S (38 * (g : Int) + w))) := fun w a b => get_e hS hg a b
  unfold F_X6_readingOf
  simp (disch := omega) only [↓bd_e, bq_e, bn_e, grd_e, I_add, I_sub, I_mul, I_neg, isZ0, isZ1, isZ_tf, tf_z, tf_le, I_lit, I_inB, I_tcN, I_lt, I_le, I_eq, ↓reduceIte, not_true_eq_false, not_false_eq_true, nz, hg', divided_e]
  rfl
theorem pointAt_f (hS : MS o S) (h : GB S g Y) (hg : g < 6) {z : Int} (h1 : -400 ≤ z) (h2 : z ≤ 1500) : F_X6_pointAt o (I (g : Int)) (I z) = some (I (ixf (pd S g) z (gn S g))) := by
  obtain ⟨f, hf, e⟩ := pointAt_e hS hg h.n h.p (z := z) (by omega) (by omega)
  rw [e, IX_u h.p.2.2.1 hf (ixf_sp (pd S g) z (gn S g))]
theorem crosses_f (hS : MS o S) (h : GB S g Y) (hg : g < 6) {z : Int} (h1 : -400 ≤ z) (h2 : z ≤ 1500) : F_X6_crosses o (I (g : Int)) (I (rdg S g z)) (I z) = some (I (crf (pr S g) (pd S g) (gn S g) (rdg S g z) z)) := by
  have hr := rdg_rg h h1 h2
  exact crf_of (mcrosses_e hS hg h.n h.p (by omega) (by omega) (by omega) (by omega))
theorem hindrance_e (hS : MS o S) (hB : SB S Y) (h : GB S g Y) (hg : g < 6) {b : Int} (h1 : 0 ≤ b) (h2 : b < 4) : F_X6_hindrance o (I (g : Int)) (I b) = some (I (hnd S g (S (229 + b)))) := by
  have hS' : ∀ a : Int, 0 ≤ a → a < 244 → rd o 20 0 (I a).toNatClampNeg = I (S a) := hS
  have hb := hB.2.1 b h1 h2
  have h7 := get7 hS hg h.n
  have hn10 := h.p.1
  have hc := crosses_f hS h hg hb.1 hb.2
  have hr := readingOf_e hS h hg hb.1 hb.2
  have hp := pointAt_f hS h hg hb.1 hb.2
  have hx := ixf_rg (pd S g) (S (229 + b)) (gn S g)
  have hc1 := crf_rg (pr S g) (pd S g) (gn S g) (rdg S g (S (229 + b))) (S (229 + b))
  unfold F_X6_hindrance hnd
  by_cases e1 : gn S g = 10
  · have e1' : ((gn S g : Int) = 10) = True := eq_true (by omega)
    by_cases e2 : ixf (pd S g) (S (229 + b)) (gn S g) = -1
    · rw [if_pos ⟨e1, e2⟩]
      simp (disch := omega) only [↓bd_e, bq_e, bn_e, grd_e, I_add, I_sub, I_mul, I_neg, isZ0, isZ1, isZ_tf, tf_z, tf_le, I_lit, I_inB, I_tcN, I_lt, I_le, I_eq, ↓reduceIte, not_true_eq_false, not_false_eq_true, nz, hS', h7, hc, hr, hp, e1', e2]
    · rw [if_neg (fun z => e2 z.2)]
      by_cases e3 : crf (pr S g) (pd S g) (gn S g) (rdg S g (S (229 + b))) (S (229 + b)) = 0
      · simp (disch := omega) only [↓bd_e, bq_e, bn_e, grd_e, I_add, I_sub, I_mul, I_neg, isZ0, isZ1, isZ_tf, tf_z, tf_le, I_lit, I_inB, I_tcN, I_lt, I_le, I_eq, ↓reduceIte, not_true_eq_false, not_false_eq_true, nz, hS', h7, hc, hr, hp, e1', e2, e3]
      · simp (disch := omega) only [↓bd_e, bq_e, bn_e, grd_e, I_add, I_sub, I_mul, I_neg, isZ0, isZ1, isZ_tf, tf_z, tf_le, I_lit, I_inB, I_tcN, I_lt, I_le, I_eq, ↓reduceIte, not_true_eq_false, not_false_eq_true, nz, hS', h7, hc, hr, hp, e1', e2, e3]
  · have e1' : ((gn S g : Int) = 10) = False := eq_false (by omega)
    rw [if_neg (fun z => e1 z.1)]
    by_cases e3 : crf (pr S g) (pd S g) (gn S g) (rdg S g (S (229 + b))) (S (229 + b)) = 0
    · simp (disch := omega) only [↓bd_e, bq_e, bn_e, grd_e, I_add, I_sub, I_mul, I_neg, isZ0, isZ1, isZ_tf, tf_z, tf_le, I_lit, I_inB, I_tcN, I_lt, I_le, I_eq, ↓reduceIte, not_true_eq_false, not_false_eq_true, nz, hS', h7, hc, hr, hp, e1', e3]
    · simp (disch := omega) only [↓bd_e, bq_e, bn_e, grd_e, I_add, I_sub, I_mul, I_neg, isZ0, isZ1, isZ_tf, tf_z, tf_le, I_lit, I_inB, I_tcN, I_lt, I_le, I_eq, ↓reduceIte, not_true_eq_false, not_false_eq_true, nz, hS', h7, hc, hr, hp, e1', e3]
theorem corr_loop (hS : MS o S) (hg : g < 6) {n : Nat} (hB : PB n (pr S g) (pd S g) (py S g)) (kk : Int32 → Option Int32) {x : Int} (hx1 : -200000 ≤ x) (hx2 : x ≤ 200000) : ∀ (fuel i : Nat), n < i + fuel → i ≤ n → LX6_correction_14 kk (I (n : Int)) o (I (g : Int)) (I x) fuel (I (below (pr S g) i x : Int)) (I (i : Int)) = kk (I (below (pr S g) n x : Int)) := by
  have hn10 := hB.1
  have hp0 : ∀ k : Nat, k < 10 → F_X6_pointOf o (I (g : Int)) (I (k : Int)) (I 0) = some (I (pr S g k)) := fun k hk => pt0 hS hg hk
  intro fuel
  induction fuel with
  | zero => intro i h1 h2; omega
  | succ fuel ih =>
    intro i h1 h2
    rw [LX6_correction_14.eq_2]
    have hcl : below (pr S g) i x ≤ i := cnt_le _ i
    by_cases hi : (n : Int) ≤ (i : Int)
    · have : i = n := by omega
      subst this
      simp (disch := omega) only [↓bd_e, bq_e, bn_e, grd_e, I_add, I_sub, I_mul, I_neg, isZ0, isZ1, isZ_tf, tf_z, tf_le, I_lit, I_inB, I_tcN, I_lt, I_le, I_eq, ↓reduceIte, not_true_eq_false, not_false_eq_true, nz, hi]
    · have hb2 := (hB.2.2.2.2 i (by omega)).1
      have hrec := ih (i + 1) (by omega) (by omega)
      have e2 : (below (pr S g) (i + 1) x : Int) = (below (pr S g) i x : Int) + (if pr S g i ≤ x then 1 else 0) := by
        show ((below (pr S g) i x + (if decide (pr S g i ≤ x) = true then 1 else 0) : Nat) : Int) = _
        by_cases hc : pr S g i ≤ x
        · rw [if_pos hc, if_pos (decide_eq_true hc)]; rfl
        · rw [if_neg hc, if_neg (by simpa using hc)]; rfl
      rw [e2] at hrec
      by_cases hc : x < pr S g i
      · rw [if_neg (by omega)] at hrec
        simp (disch := omega) only [↓bd_e, bq_e, bn_e, grd_e, I_add, I_sub, I_mul, I_neg, isZ0, isZ1, isZ_tf, tf_z, tf_le, I_lit, I_inB, I_tcN, I_lt, I_le, I_eq, ↓reduceIte, not_true_eq_false, not_false_eq_true, nz, hi, hp0, hc]
        exact hrec
      · rw [if_pos (by omega)] at hrec
        simp (disch := omega) only [↓bd_e, bq_e, bn_e, grd_e, I_add, I_sub, I_mul, I_neg, isZ0, isZ1, isZ_tf, tf_z, tf_le, I_lit, I_inB, I_tcN, I_lt, I_le, I_eq, ↓reduceIte, not_true_eq_false, not_false_eq_true, nz, hi, hp0, hc]
        exact hrec
theorem correction_f (hS : MS o S) (h : GB S g Y) (hg : g < 6) (h2 : 2 ≤ gn S g) {x : Int} (hx1 : -200000 ≤ x) (hx2 : x ≤ 200000) : F_X6_correction o (I (g : Int)) (I x) = some (I (corf (pr S g) (pd S g) (gn S g) x)) := by
  have h7 := get7 hS hg h.n
  have hB := h.p
  have hsj := h.s
  have hn10 := hB.1
  have hl : ∀ kk : Int32 → Option Int32, LX6_correction_14 kk (I (gn S g : Int)) o (I (g : Int)) (I x) FU (I 0) (I 0) = kk (I (below (pr S g) (gn S g) x : Int)) := fun kk => corr_loop hS hg hB kk hx1 hx2 FU 0 (by unfold FU; omega) (by omega)
  have hpl := plc_rg (r := pr S g) h2 x
  have hP := corf_pair (d := pd S g) h2 hsj x
  have hbl := cnt_le (fun k => decide (pr S g k ≤ x)) (gn S g)
  have eb : below (pr S g) (gn S g) x = cnt (fun k => decide (pr S g k ≤ x)) (gn S g) := rfl
  have hr : ∀ p : Nat, p < gn S g → F_X6_ranked o (I (g : Int)) (I (p : Int)) = some (I (oi (pr S g) (gn S g) p : Int)) := fun p hp => ranked_in hS hg h.n hB hsj hp
  have hp0 : ∀ k : Nat, k < 10 → F_X6_pointOf o (I (g : Int)) (I (k : Int)) (I 0) = some (I (pr S g k)) := fun k hk => pt0 hS hg hk
  have hp1 : ∀ k : Nat, k < 10 → F_X6_pointOf o (I (g : Int)) (I (k : Int)) (I 1) = some (I (pd S g k)) := fun k hk => pt1 hS hg hk
  have r1 := hr (plc (pr S g) (gn S g) x) (by omega)
  have r2 := hr (plc (pr S g) (gn S g) x + 1) hpl
  have q1 := hP.1
  have q2 := hP.2.1
  have q3 := hP.2.2.1
  have b1 := hB.2.2.2.2 _ q1
  have b2 := hB.2.2.2.2 _ q2
  have hl1 := (lin_rg hB hx1 hx2 q1 q2 q3).1
  have main : ∀ P : Int, P = (plc (pr S g) (gn S g) x : Int) → (bq (F_X6_ranked o (I (g : Int)) (I P)) (fun r_4 => bq (F_X6_ranked o (I (g : Int)) (I P + I 1)) (fun r_5 => bq (F_X6_pointOf o (I (g : Int)) r_4 (I 0)) (fun r_6 => bq (F_X6_pointOf o (I (g : Int)) r_4 (I 1)) (fun r_7 => bq (F_X6_pointOf o (I (g : Int)) r_5 (I 1)) (fun r_8 => bq (F_X6_pointOf o (I (g : Int)) r_5 (I 0)) (fun r_9 => bq (F_X6_divided o ((r_8 - r_7) * (I x - r_6)) (r_9 - r_6)) (fun r_10 => some (r_7 + r_10)))))))) : Option Int32) = some (I (corf (pr S g) (pd S g) (gn S g) x)) := by
    intro P hP
    subst hP
    rw [I_add, show I ((plc (pr S g) (gn S g) x : Int) + 1) = I ((plc (pr S g) (gn S g) x + 1 : Nat) : Int) from rfl, r1, r2]
    simp (disch := omega) only [↓bd_e, bq_e, bn_e, grd_e, I_add, I_sub, I_mul, I_neg, isZ0, isZ1, isZ_tf, tf_z, tf_le, I_lit, I_inB, I_tcN, I_lt, I_le, I_eq, ↓reduceIte, not_true_eq_false, not_false_eq_true, nz, hp0, hp1, divided_e]
    rfl
  unfold F_X6_correction
  have z0 : (0 : Int32) = I 0 := rfl
  have z1 : (1 : Int32) = I 1 := rfl
  have z2 : (2 : Int32) = I 2 := rfl
  have z7 : (7 : Int32) = I 7 := rfl
  rw [z7, h7]
  simp only [bq_e, bd_e, z0, hl]
  by_cases c1 : below (pr S g) (gn S g) x = 0
  · have c1' : (I (below (pr S g) (gn S g) x : Int) = I 0) = True := eq_true (by rw [c1]; rfl)
    rw [if_pos (of_eq_true c1')]
    exact main 0 (by unfold plc; rw [if_pos c1]; rfl)
  · have c1' : ¬ (I (below (pr S g) (gn S g) x : Int) = I 0) := by
      intro e
      have := I_inj (by omega) (by omega) (by omega) (by omega) e
      omega
    rw [if_neg c1']
    by_cases c2 : below (pr S g) (gn S g) x = gn S g
    · rw [if_pos (by rw [c2])]
      rw [z2, I_sub]
      exact main ((gn S g : Int) - 2) (by unfold plc; rw [if_neg c1, if_pos c2]; omega)
    · have c2' : ¬ (I (below (pr S g) (gn S g) x : Int) = I (gn S g : Int)) := by
        intro e
        have := I_inj (by omega) (by omega) (by omega) (by omega) e
        omega
      rw [if_neg c2', z1, I_sub]
      exact main ((below (pr S g) (gn S g) x : Int) - 1) (by unfold plc; rw [if_neg c1, if_neg c2]; omega)
theorem areEnough_e (hS : MS o S) (h : GB S g Y) (hg : g < 6) : F_X6_areEnough o (I (g : Int)) = some (tf (2 ≤ gn S g)) := by
  have h7 := get7 hS hg h.n
  have hn10 := h.p.1
  unfold F_X6_areEnough
  by_cases c : 2 ≤ gn S g
  · have c' : ((gn S g : Int) ≤ 1) = False := eq_false (by omega)
    rw [tf_t c]
    simp (disch := omega) only [↓bd_e, bq_e, bn_e, grd_e, I_add, I_sub, I_mul, I_neg, isZ0, isZ1, isZ_tf, tf_z, tf_le, I_lit, I_inB, I_tcN, I_lt, I_le, I_eq, ↓reduceIte, not_true_eq_false, not_false_eq_true, nz, h7, c']
  · have c' : ((gn S g : Int) ≤ 1) = True := eq_true (by omega)
    rw [tf_f c]
    simp (disch := omega) only [↓bd_e, bq_e, bn_e, grd_e, I_add, I_sub, I_mul, I_neg, isZ0, isZ1, isZ_tf, tf_z, tf_le, I_lit, I_inB, I_tcN, I_lt, I_le, I_eq, ↓reduceIte, not_true_eq_false, not_false_eq_true, nz, h7, c']
theorem overlapOf_e (hS : MS o S) {h : Nat} (hG : GB S g Y) (hH : GB S h Y) (hg : g < 6) (hh : h < 6) {z : Int} (h1 : -400 ≤ z) (h2 : z ≤ 1500) : F_X6_overlapOf o (I (g : Int)) (I (h : Int)) (I z) = some (I (ovl S g h z)) := by
  have a1 := areEnough_e hS hG hg
  have a2 := areEnough_e hS hH hh
  have b1 := readingOf_e hS hG hg h1 h2
  have b2 := readingOf_e hS hH hh h1 h2
  unfold F_X6_overlapOf ovl
  by_cases c1 : 2 ≤ gn S g
  · by_cases c2 : 2 ≤ gn S h
    · have r1 := (rdg_rg hG h1 h2).2
      have r2 := (rdg_rg hH h1 h2).2
      have d1 := correction_f hS hG hg c1 (x := rdg S g z) (by omega) (by omega)
      have d2 := correction_f hS hH hh c2 (x := rdg S h z) (by omega) (by omega)
      have e1 := corf_rg hG.p c1 hG.s (x := rdg S g z) (by omega) (by omega)
      have e2 := corf_rg hH.p c2 hH.s (x := rdg S h z) (by omega) (by omega)
      rw [if_neg (by omega)]
      simp (disch := omega) only [↓bd_e, bq_e, bn_e, grd_e, I_add, I_sub, I_mul, I_neg, isZ0, isZ1, isZ_tf, tf_z, tf_le, I_lit, I_inB, I_tcN, I_lt, I_le, I_eq, ↓reduceIte, not_true_eq_false, not_false_eq_true, nz, a1, a2, b1, b2, d1, d2, c1, c2]
      split
      · rw [if_neg (by omega)]
      · rw [if_pos (by omega)]
    · rw [if_pos (by omega)]
      simp (disch := omega) only [↓bd_e, bq_e, bn_e, grd_e, I_add, I_sub, I_mul, I_neg, isZ0, isZ1, isZ_tf, tf_z, tf_le, I_lit, I_inB, I_tcN, I_lt, I_le, I_eq, ↓reduceIte, not_true_eq_false, not_false_eq_true, nz, a1, a2, c1, c2]
  · rw [if_pos (by omega)]
    simp (disch := omega) only [↓bd_e, bq_e, bn_e, grd_e, I_add, I_sub, I_mul, I_neg, isZ0, isZ1, isZ_tf, tf_z, tf_le, I_lit, I_inB, I_tcN, I_lt, I_le, I_eq, ↓reduceIte, not_true_eq_false, not_false_eq_true, nz, a1, a2, c1]
theorem misValid_e (hS : MS o S) (hB : SB S Y) (hY : Y ≤ 1000000) (h : GB S g Y) (hg : g < 6) : F_X6_isValid o (I (g : Int)) = some (I (val S g)) := by
  have hS' : ∀ a : Int, 0 ≤ a → a < 244 → rd o 20 0 (I a).toNatClampNeg = I (S a) := hS
  have hg' : ∀ w : Int, 0 ≤ w → w < 38 → F_X6_get o (I (g : Int)) (I w) = some (I (S (38 * (g : Int) + w))) := fun w a b => get_e hS hg a b
  obtain ⟨a1, a2, a3, a4, a5, a6, a7, -⟩ := h
  have h6 := hB.2.2.2.2.1 6 (by omega) (by omega)
  rw [if_neg (by omega), if_neg (by omega)] at h6
  have h6' : 0 ≤ S 241 ∧ S 241 ≤ 100 := h6
  unfold F_X6_isValid val
  by_cases c1 : S (38 * (g : Int) + 5) = -1
  · simp (disch := omega) only [↓bd_e, bq_e, bn_e, grd_e, I_add, I_sub, I_mul, I_neg, isZ0, isZ1, isZ_tf, tf_z, tf_le, I_lit, I_inB, I_tcN, I_lt, I_le, I_eq, ↓reduceIte, not_true_eq_false, not_false_eq_true, nz, hS', hg', c1, false_and]
  · by_cases c2 : S 241 < S (38 * (g : Int) + 4) - S (38 * (g : Int) + 6)
    · simp (disch := omega) only [↓bd_e, bq_e, bn_e, grd_e, I_add, I_sub, I_mul, I_neg, isZ0, isZ1, isZ_tf, tf_z, tf_le, I_lit, I_inB, I_tcN, I_lt, I_le, I_eq, ↓reduceIte, not_true_eq_false, not_false_eq_true, nz, hS', hg', c1, c2, and_false]
    · simp (disch := omega) only [↓bd_e, bq_e, bn_e, grd_e, I_add, I_sub, I_mul, I_neg, isZ0, isZ1, isZ_tf, tf_z, tf_le, I_lit, I_inB, I_tcN, I_lt, I_le, I_eq, ↓reduceIte, not_true_eq_false, not_false_eq_true, nz, hS', hg', c1, c2, and_self]
theorem misOld_e (hS : MS o S) (hB : SB S Y) (hY : Y ≤ 1000000) (h : GB S g Y) (hg : g < 6) {z : Int} (h1 : -400 ≤ z) (h2 : z ≤ 1500) (hx : ¬ ixf (pd S g) z (gn S g) = -1) : F_X6_isOld o (I (g : Int)) (I z) = some (I (oldf S g z)) := by
  have hS' : ∀ a : Int, 0 ≤ a → a < 244 → rd o 20 0 (I a).toNatClampNeg = I (S a) := hS
  have hp := pointAt_f hS h hg h1 h2
  have hxr := ixf_rg (pd S g) z (gn S g)
  obtain ⟨k, hk⟩ : ∃ k : Nat, ixf (pd S g) z (gn S g) = (k : Int) := ⟨(ixf (pd S g) z (gn S g)).toNat, by omega⟩
  have hn10 := h.p.1
  have hyk := (h.p.2.2.2.2 k (by omega)).2.2
  have h4 := hB.2.2.2.2.1 4 (by omega) (by omega)
  rw [if_neg (by omega), if_pos rfl] at h4
  have h4' : 0 ≤ S 239 ∧ S 239 ≤ 20 := h4
  have h233 := hB.2.2.1
  have hpt := pt2 hS hg (k := k) (by omega)
  unfold F_X6_isOld oldf
  rw [hk, show ((k : Int)).toNat = k from by omega]
  rw [hk] at hp
  by_cases c : S 233 - py S g k ≤ S 239
  · rw [if_neg (by omega)]
    simp (disch := omega) only [↓bd_e, bq_e, bn_e, grd_e, I_add, I_sub, I_mul, I_neg, isZ0, isZ1, isZ_tf, tf_z, tf_le, I_lit, I_inB, I_tcN, I_lt, I_le, I_eq, ↓reduceIte, not_true_eq_false, not_false_eq_true, nz, hS', hp, hpt, c]
  · rw [if_pos (by omega)]
    simp (disch := omega) only [↓bd_e, bq_e, bn_e, grd_e, I_add, I_sub, I_mul, I_neg, isZ0, isZ1, isZ_tf, tf_z, tf_le, I_lit, I_inB, I_tcN, I_lt, I_le, I_eq, ↓reduceIte, not_true_eq_false, not_false_eq_true, nz, hS', hp, hpt, c]
theorem differs_loop (hS : MS o S) (hB : SB S Y) (hY : Y ≤ 1000000) (hg : g < gm S) (kk : Int32 → Option Int32) : ∀ (fuel i : Nat), gm S < i + fuel → i ≤ gm S →
    (Dif S g i → LX6_differs_4 kk o (I (g : Int)) fuel (I 1) (I (i : Int)) = kk (I 1)) ∧
    (¬ Dif S g i → LX6_differs_4 kk o (I (g : Int)) fuel (I 0) (I (i : Int)) = kk (I (dif S g))) := by
  have hS' : ∀ a : Int, 0 ≤ a → a < 244 → rd o 20 0 (I a).toNatClampNeg = I (S a) := hS
  have hm := hB.m
  have hs228 := hm.1
  have hG := hB.g hg
  have h5 := hB.2.2.2.2.1 5 (by omega) (by omega)
  rw [if_neg (by omega), if_neg (by omega)] at h5
  have h5' : 0 ≤ S 240 ∧ S 240 ≤ 100 := h5
  have hg2 : ∀ k : Nat, k < 6 → F_X6_get o (I (k : Int)) (I 2) = some (I (S (38 * (k : Int) + 2))) := fun k hk => get_e hS hk (by omega) (by omega)
  have e10 : ((1 : Int) = 0) = False := by simp
  have mono : ∀ {a b : Nat}, a ≤ b → Dif S g a → Dif S g b := fun hab ⟨j, hj, hz⟩ => ⟨j, by omega, hz⟩
  intro fuel
  induction fuel with
  | zero => intro i h1 h2; omega
  | succ fuel ih =>
    intro i h1 h2
    have e : (I ((i : Int) + 1)) = I ((i + 1 : Nat) : Int) := rfl
    by_cases hi : (gm S : Int) ≤ (i : Int)
    · have : i = gm S := by omega
      constructor
      · intro hc
        rw [LX6_differs_4.eq_2]
        simp (disch := omega) only [↓bd_e, bq_e, bn_e, grd_e, I_add, I_sub, I_mul, I_neg, isZ0, isZ1, isZ_tf, tf_z, tf_le, I_lit, I_inB, I_tcN, I_lt, I_le, I_eq, ↓reduceIte, not_true_eq_false, not_false_eq_true, nz, hS', hs228, hi]
      · intro hc
        rw [LX6_differs_4.eq_2]
        simp (disch := omega) only [↓bd_e, bq_e, bn_e, grd_e, I_add, I_sub, I_mul, I_neg, isZ0, isZ1, isZ_tf, tf_z, tf_le, I_lit, I_inB, I_tcN, I_lt, I_le, I_eq, ↓reduceIte, not_true_eq_false, not_false_eq_true, nz, hS', hs228, hi]
        unfold dif
        rw [if_neg (by rw [← this]; exact hc)]
    · have hrec := ih (i + 1) (by omega) (by omega)
      have hI := hB.g (g := i) (by omega)
      have hv := misValid_e hS hB hY hI (by omega)
      have hov := overlapOf_e hS hG hI (by omega) (by omega) (z := 500) (by omega) (by omega)
      have hovr := ovl_rg hG hI (z := 500) (by omega) (by omega)
      have hvr := val_01 S i
      have b1 := hG.2.2.1
      have b2 := hI.2.2.1
      constructor
      · intro hc
        have hd1 := hrec.1 (mono (by omega) hc)
        rw [LX6_differs_4.eq_2]
        by_cases c1 : (i : Int) = (g : Int)
        · simp (disch := omega) only [↓bd_e, bq_e, bn_e, grd_e, I_add, I_sub, I_mul, I_neg, isZ0, isZ1, isZ_tf, tf_z, tf_le, I_lit, I_inB, I_tcN, I_lt, I_le, I_eq, ↓reduceIte, not_true_eq_false, not_false_eq_true, nz, hS', hs228, hi, eq_true c1, e10]
          rw [e]; exact hd1
        · by_cases c2 : S (38 * (i : Int) + 2) = S (38 * (g : Int) + 2)
          · by_cases c3 : val S i = 0
            · simp (disch := omega) only [↓bd_e, bq_e, bn_e, grd_e, I_add, I_sub, I_mul, I_neg, isZ0, isZ1, isZ_tf, tf_z, tf_le, I_lit, I_inB, I_tcN, I_lt, I_le, I_eq, ↓reduceIte, not_true_eq_false, not_false_eq_true, nz, hS', hs228, hi, hg2, c1, c2, hv, c3, e10]
              rw [e]; exact hd1
            · simp (disch := omega) only [↓bd_e, bq_e, bn_e, grd_e, I_add, I_sub, I_mul, I_neg, isZ0, isZ1, isZ_tf, tf_z, tf_le, I_lit, I_inB, I_tcN, I_lt, I_le, I_eq, ↓reduceIte, not_true_eq_false, not_false_eq_true, nz, hS', hs228, hi, hg2, c1, c2, hv, c3, e10]
              rw [e]; exact hd1
          · simp (disch := omega) only [↓bd_e, bq_e, bn_e, grd_e, I_add, I_sub, I_mul, I_neg, isZ0, isZ1, isZ_tf, tf_z, tf_le, I_lit, I_inB, I_tcN, I_lt, I_le, I_eq, ↓reduceIte, not_true_eq_false, not_false_eq_true, nz, hS', hs228, hi, hg2, c1, c2, e10]
            rw [e]; exact hd1
      · intro hc
        by_cases ht : i ≠ g ∧ S (38 * (i : Int) + 2) = S (38 * (g : Int) + 2) ∧ val S i = 1 ∧ S 240 < ovl S g i 500
        · have hd2 : Dif S g (i + 1) := ⟨i, by omega, ht⟩
          have hd1 := hrec.1 hd2
          have hdif : dif S g = 1 := by unfold dif; rw [if_pos (mono (by omega) hd2)]
          rw [LX6_differs_4.eq_2, hdif, ← hd1]
          have c1 : ((i : Int) = (g : Int)) = False := eq_false (by omega)
          have c2 := ht.2.1
          have c3 : ((1 : Int) = 0) = False := by simp
          have c4 : (ovl S g i 500 ≤ S 240) = False := eq_false (by omega)
          simp (disch := omega) only [↓bd_e, bq_e, bn_e, grd_e, I_add, I_sub, I_mul, I_neg, isZ0, isZ1, isZ_tf, tf_z, tf_le, I_lit, I_inB, I_tcN, I_lt, I_le, I_eq, ↓reduceIte, not_true_eq_false, not_false_eq_true, nz, hS', hs228, hi, hg2, c1, c2, hv, ht.2.2.1, c3, hov, c4]
          rfl
        · have hd2 : ¬ Dif S g (i + 1) := fun ⟨j, hj, hz⟩ => by
            by_cases hji : j = i
            · rw [hji] at hz; exact ht hz
            · exact hc ⟨j, by omega, hz⟩
          have hd1 := hrec.2 hd2
          rw [LX6_differs_4.eq_2]
          by_cases c1 : (i : Int) = (g : Int)
          · simp (disch := omega) only [↓bd_e, bq_e, bn_e, grd_e, I_add, I_sub, I_mul, I_neg, isZ0, isZ1, isZ_tf, tf_z, tf_le, I_lit, I_inB, I_tcN, I_lt, I_le, I_eq, ↓reduceIte, not_true_eq_false, not_false_eq_true, nz, hS', hs228, hi, eq_true c1, e10]
            rw [e]; exact hd1
          · by_cases c2 : S (38 * (i : Int) + 2) = S (38 * (g : Int) + 2)
            · by_cases c3 : val S i = 0
              · simp (disch := omega) only [↓bd_e, bq_e, bn_e, grd_e, I_add, I_sub, I_mul, I_neg, isZ0, isZ1, isZ_tf, tf_z, tf_le, I_lit, I_inB, I_tcN, I_lt, I_le, I_eq, ↓reduceIte, not_true_eq_false, not_false_eq_true, nz, hS', hs228, hi, hg2, c1, c2, hv, c3, e10]
                rw [e]; exact hd1
              · have c4 : (ovl S g i 500 ≤ S 240) = True := eq_true (by
                  apply Classical.byContradiction
                  intro hz
                  exact ht ⟨by omega, c2, by omega, by omega⟩)
                simp (disch := omega) only [↓bd_e, bq_e, bn_e, grd_e, I_add, I_sub, I_mul, I_neg, isZ0, isZ1, isZ_tf, tf_z, tf_le, I_lit, I_inB, I_tcN, I_lt, I_le, I_eq, ↓reduceIte, not_true_eq_false, not_false_eq_true, nz, hS', hs228, hi, hg2, c1, c2, hv, c3, e10, hov, c4]
                rw [e]; exact hd1
            · simp (disch := omega) only [↓bd_e, bq_e, bn_e, grd_e, I_add, I_sub, I_mul, I_neg, isZ0, isZ1, isZ_tf, tf_z, tf_le, I_lit, I_inB, I_tcN, I_lt, I_le, I_eq, ↓reduceIte, not_true_eq_false, not_false_eq_true, nz, hS', hs228, hi, hg2, c1, c2, e10]
              rw [e]; exact hd1
theorem dif_01 (S : Int → Int) (g : Nat) : dif S g = 0 ∨ dif S g = 1 := by
  unfold dif
  split
  · exact Or.inr rfl
  · exact Or.inl rfl
theorem oldf_01 (S : Int → Int) (g : Nat) (z : Int) : oldf S g z = 0 ∨ oldf S g z = 1 := by
  unfold oldf
  split
  · exact Or.inr rfl
  · exact Or.inl rfl
theorem differs_e (hS : MS o S) (hB : SB S Y) (hY : Y ≤ 1000000) (hg : g < gm S) : F_X6_differs o (I (g : Int)) = some (I (dif S g)) := by
  have hm := hB.m
  have := (differs_loop hS hB hY hg (fun v => grd (isZ v) (some v)) FU 0 (by unfold FU; omega) (by omega)).2 (fun ⟨j, hj, _⟩ => by omega)
  unfold F_X6_differs
  simp only [↓bd_e, bq_e, bn_e, grd_e, I_add, I_sub, I_mul, I_neg, isZ0, isZ1, isZ_tf, tf_z, tf_le, I_lit, I_inB, I_tcN, I_lt, I_le, I_eq, ↓reduceIte, not_true_eq_false, not_false_eq_true, nz]
  refine Eq.trans this ?_
  rcases dif_01 S g with z | z <;> rw [z] <;> rfl
theorem refusal_e (hS : MS o S) (hB : SB S Y) (hY : Y ≤ 1000000) (hg : g < gm S) : F_X6_refusal o (I (g : Int)) = some (I (ref S g)) := by
  have hm := hB.m
  have hG := hB.g hg
  have hn10 := hG.p.1
  have p0 := pointAt_f hS hG (by omega) (z := 0) (by omega) (by omega)
  have p1 := pointAt_f hS hG (by omega) (z := 1000) (by omega) (by omega)
  have x0 := ixf_rg (pd S g) 0 (gn S g)
  have x1 := ixf_rg (pd S g) 1000 (gn S g)
  have hv := misValid_e hS hB hY hG (by omega)
  have hd := differs_e hS hB hY hg
  have v01 := val_01 S g
  have d01 := dif_01 S g
  have o0 := oldf_01 S g 0
  have o1 := oldf_01 S g 1000
  unfold F_X6_refusal ref
  by_cases c0 : ixf (pd S g) 0 (gn S g) = -1
  · simp (disch := omega) only [↓bd_e, bq_e, bn_e, grd_e, I_add, I_sub, I_mul, I_neg, isZ0, isZ1, isZ_tf, tf_z, tf_le, I_lit, I_inB, I_tcN, I_lt, I_le, I_eq, ↓reduceIte, not_true_eq_false, not_false_eq_true, nz, p0, c0, true_or]
  · by_cases c1 : ixf (pd S g) 1000 (gn S g) = -1
    · simp (disch := omega) only [↓bd_e, bq_e, bn_e, grd_e, I_add, I_sub, I_mul, I_neg, isZ0, isZ1, isZ_tf, tf_z, tf_le, I_lit, I_inB, I_tcN, I_lt, I_le, I_eq, ↓reduceIte, not_true_eq_false, not_false_eq_true, nz, p0, p1, c0, c1, or_true]
    · have q0 := misOld_e hS hB hY hG (by omega) (z := 0) (by omega) (by omega) c0
      have q1 := misOld_e hS hB hY hG (by omega) (z := 1000) (by omega) (by omega) c1
      rcases o0 with o0 | o0
      · rcases o1 with o1 | o1
        · rcases v01 with v | v
          · rcases d01 with w | w
            · simp (disch := omega) only [↓bd_e, bq_e, bn_e, grd_e, I_add, I_sub, I_mul, I_neg, isZ0, isZ1, isZ_tf, tf_z, tf_le, I_lit, I_inB, I_tcN, I_lt, I_le, I_eq, ↓reduceIte, not_true_eq_false, not_false_eq_true, nz, p0, p1, c0, c1, q0, q1, o0, o1, hv, v, hd, w, or_self, show ((0 : Int) = 1) = False from by simp]
            · simp (disch := omega) only [↓bd_e, bq_e, bn_e, grd_e, I_add, I_sub, I_mul, I_neg, isZ0, isZ1, isZ_tf, tf_z, tf_le, I_lit, I_inB, I_tcN, I_lt, I_le, I_eq, ↓reduceIte, not_true_eq_false, not_false_eq_true, nz, p0, p1, c0, c1, q0, q1, o0, o1, hv, v, hd, w, or_self, show ((0 : Int) = 1) = False from by simp, show ((1 : Int) = 0) = False from by simp]
          · simp (disch := omega) only [↓bd_e, bq_e, bn_e, grd_e, I_add, I_sub, I_mul, I_neg, isZ0, isZ1, isZ_tf, tf_z, tf_le, I_lit, I_inB, I_tcN, I_lt, I_le, I_eq, ↓reduceIte, not_true_eq_false, not_false_eq_true, nz, p0, p1, c0, c1, q0, q1, o0, o1, hv, v, or_self, show ((0 : Int) = 1) = False from by simp, show ((1 : Int) = 0) = False from by simp]
        · simp (disch := omega) only [↓bd_e, bq_e, bn_e, grd_e, I_add, I_sub, I_mul, I_neg, isZ0, isZ1, isZ_tf, tf_z, tf_le, I_lit, I_inB, I_tcN, I_lt, I_le, I_eq, ↓reduceIte, not_true_eq_false, not_false_eq_true, nz, p0, p1, c0, c1, q0, q1, o0, o1, or_self, or_true, show ((0 : Int) = 1) = False from by simp, show ((1 : Int) = 0) = False from by simp]
      · simp (disch := omega) only [↓bd_e, bq_e, bn_e, grd_e, I_add, I_sub, I_mul, I_neg, isZ0, isZ1, isZ_tf, tf_z, tf_le, I_lit, I_inB, I_tcN, I_lt, I_le, I_eq, ↓reduceIte, not_true_eq_false, not_false_eq_true, nz, p0, p1, c0, c1, q0, q1, o0, or_self, true_or, show ((0 : Int) = 1) = False from by simp, show ((1 : Int) = 0) = False from by simp]
end
