/-! the model's other looks -/
def wsp (S : Int → Int) (g h : Nat) : Nat → Int → Int → Int → Int
  | 0, f, _, _ => f
  | n + 1, f, m, z => if ovl S g h z ≤ m then wsp S g h n f m (z + 100) else wsp S g h n (z + 10000) (ovl S g h z) (z + 100)
def wst (S : Int → Int) (g h : Nat) : Int := wsp S g h 20 (-1) (-1) (-400)
theorem wsp_rg (S : Int → Int) (g h : Nat) : ∀ (n : Nat) (f m z : Int), -1 ≤ f → f ≤ 12000 → -400 ≤ z → z + 100 * (n : Int) ≤ 1600 → -1 ≤ wsp S g h n f m z ∧ wsp S g h n f m z ≤ 12000
  | 0, f, m, z, h1, h2, _, _ => ⟨h1, h2⟩
  | n + 1, f, m, z, h1, h2, h3, h4 => by
    unfold wsp
    split
    · exact wsp_rg S g h n f m (z + 100) h1 h2 (by omega) (by omega)
    · exact wsp_rg S g h n (z + 10000) _ (z + 100) (by omega) (by omega) (by omega) (by omega)
theorem wst_rg (S : Int → Int) (g h : Nat) : -1 ≤ wst S g h ∧ wst S g h ≤ 12000 := wsp_rg S g h 20 (-1) (-1) (-400) (by omega) (by omega) (by omega) (by omega)
def wid (S : Int → Int) (g : Nat) : Int := mx (gap (pr S g) (pd S g) (gn S g)) (max (gn S g) 1)
def dpt (S : Int → Int) (g : Nat) : Int := mx (fun k => (dep (pr S g) k : Int)) (gn S g)
noncomputable def ofg (S : Int → Int) (g : Nat) (w : Int) : Int :=
  if w = 0 then S (38 * (g : Int) + 2) else if w = 1 then S (38 * (g : Int) + 3) else if w = 2 then S (38 * (g : Int) + 4) else if w = 3 then (gn S g : Int) else if w = 4 then dpt S g else if w = 5 then S (38 * (g : Int) + 5) else if w = 6 then val S g else if w = 7 then ref S g else wid S g
def ofp (S : Int → Int) (g : Nat) (p w : Int) : Int :=
  if p < (gn S g : Int) then (let j := oi (pr S g) (gn S g) p.toNat; if w = 0 then pr S g j + 10000 else if w = 1 then pd S g j + 10000 else if w = 2 then py S g j else (dep (pr S g) j : Int)) else -1
def sof (S : Int → Int) (w : Int) : Int :=
  if w = 2 then sm (fun g => (gn S g : Int)) (gm S) else if w = 3 then sm (fun g => val S g) (gm S) else sm (fun g => S (38 * (g : Int) + 4)) (gm S)
def cor (S : Int → Int) (g : Nat) (x : Int) : Int := if 2 ≤ gn S g then corf (pr S g) (pd S g) (gn S g) x + 10000000 else -1
section
variable {o : OM} {S : Int → Int} {g Y : Nat}
theorem void_loop (hS : MS o S) (hB : SB S Y) (hY : Y ≤ 1000000) (hG : GB S g Y) (hg : g < 6) (kk : Int32 → Option Int32) : ∀ (fuel i : Nat), 51 < i + fuel → i ≤ 51 → ∃ j : Nat, j ≤ 51 ∧ LX6_yearsUntilVoid_29 kk o (I (g : Int)) fuel (I (snc S g i)) (I (i : Int)) = kk (I (j : Int)) ∧ (if (j : Int) ≤ 50 then (j : Int) else -1) = frs (fun n => decide (S 241 < snc S g n)) (51 - i) i := by
  have hS' : ∀ a : Int, 0 ≤ a → a < 244 → rd o 20 0 (I a).toNatClampNeg = I (S a) := hS
  have hg' : ∀ w : Int, 0 ≤ w → w < 38 → F_X6_get o (I (g : Int)) (I w) = some (I (S (38 * (g : Int) + w))) := fun w a b => get_e hS hg a b
  have hsn := snc_rg hB hG
  obtain ⟨a1, a2, a3, a4, -⟩ := id hG
  have h6 := hB.2.2.2.2.1 6 (by omega) (by omega)
  rw [if_neg (by omega), if_neg (by omega)] at h6
  have h6' : 0 ≤ S 241 ∧ S 241 ≤ 100 := h6
  intro fuel
  induction fuel with
  | zero => intro i h1 h2; omega
  | succ fuel ih =>
    intro i h1 h2
    have hsi := hsn i
    rw [LX6_yearsUntilVoid_29.eq_2]
    by_cases hi : (50 : Int) < (i : Int)
    · refine ⟨i, by omega, ?_, ?_⟩
      · simp (disch := omega) only [↓bd_e, bq_e, bn_e, grd_e, I_add, I_sub, I_mul, I_neg, isZ0, isZ1, isZ_tf, tf_z, tf_le, I_lit, I_inB, I_tcN, I_lt, I_le, I_eq, ↓reduceIte, not_true_eq_false, not_false_eq_true, nz, hi]
      · rw [if_neg (by omega), show 51 - i = 0 from by omega]
        rfl
    · obtain ⟨q, hq⟩ : ∃ q, 51 - i = q + 1 := ⟨50 - i, by omega⟩
      by_cases hc : S 241 < snc S g i
      · refine ⟨i, by omega, ?_, ?_⟩
        · simp (disch := omega) only [↓bd_e, bq_e, bn_e, grd_e, I_add, I_sub, I_mul, I_neg, isZ0, isZ1, isZ_tf, tf_z, tf_le, I_lit, I_inB, I_tcN, I_lt, I_le, I_eq, ↓reduceIte, not_true_eq_false, not_false_eq_true, nz, hS', hi, hc]
        · rw [if_pos (by omega), hq]
          unfold frs
          rw [if_pos (decide_eq_true hc)]
      · obtain ⟨j, j1, j2, j3⟩ := ih (i + 1) (by omega) (by omega)
        refine ⟨j, j1, ?_, ?_⟩
        · rw [← j2]
          simp (disch := omega) only [↓bd_e, bq_e, bn_e, grd_e, I_add, I_sub, I_mul, I_neg, isZ0, isZ1, isZ_tf, tf_z, tf_le, I_lit, I_inB, I_tcN, I_lt, I_le, I_eq, ↓reduceIte, not_true_eq_false, not_false_eq_true, nz, hS', hg', hi, hc, I_div]
          rw [Int.tdiv_eq_ediv_of_nonneg (by omega)]
          rfl
        · rw [j3, hq]
          show _ = (if _ then _ else _)
          rw [if_neg (by simpa using hc), show 51 - (i + 1) = q from by omega]
theorem myears_e (hS : MS o S) (hB : SB S Y) (hY : Y ≤ 1000000) (hG : GB S g Y) (hg : g < 6) : F_X6_yearsUntilVoid o (I (g : Int)) = some (I (vdf S g)) := by
  have hg' : ∀ w : Int, 0 ≤ w → w < 38 → F_X6_get o (I (g : Int)) (I w) = some (I (S (38 * (g : Int) + w))) := fun w a b => get_e hS hg a b
  have a6 := hG.2.2.2.2.2.1
  unfold F_X6_yearsUntilVoid vdf
  by_cases c : S (38 * (g : Int) + 5) = -1
  · simp (disch := omega) only [↓bd_e, bq_e, bn_e, grd_e, I_add, I_sub, I_mul, I_neg, isZ0, isZ1, isZ_tf, tf_z, tf_le, I_lit, I_inB, I_tcN, I_lt, I_le, I_eq, ↓reduceIte, not_true_eq_false, not_false_eq_true, nz, hg', c]
  · obtain ⟨j, j1, j2, j3⟩ := void_loop hS hB hY hG hg (fun v3_5 : Int32 => bd (fun (s_6 : Int32) => some s_6) (fun k93 => if v3_5 ≤ ((50 : Int32)) then (k93 v3_5) else (k93 ((-1 : Int32))))) FU 0 (by unfold FU; omega) (by omega)
    rw [if_neg c, ← j3]
    have z5 : (5 : Int32) = I 5 := rfl
    have z4 : (4 : Int32) = I 4 := rfl
    have z6 : (6 : Int32) = I 6 := rfl
    have z1 : (-1 : Int32) = I (-1) := rfl
    have c' : ¬ (I (S (38 * (g : Int) + 5)) = I (-1)) := fun e => c (I_inj (by omega) (by omega) (by omega) (by omega) e)
    rw [z5, z4, z6, hg' 5 (by omega) (by omega), hg' 4 (by omega) (by omega), hg' 6 (by omega) (by omega)]
    simp only [bq_e, bd_e, I_sub]
    rw [z1, if_neg c']
    refine Eq.trans j2 ?_
    by_cases hj : (j : Int) ≤ 50
    · simp (disch := omega) only [↓bd_e, bq_e, bn_e, grd_e, I_add, I_sub, I_mul, I_neg, isZ0, isZ1, isZ_tf, tf_z, tf_le, I_lit, I_inB, I_tcN, I_lt, I_le, I_eq, ↓reduceIte, not_true_eq_false, not_false_eq_true, nz, hj]
    · simp (disch := omega) only [↓bd_e, bq_e, bn_e, grd_e, I_add, I_sub, I_mul, I_neg, isZ0, isZ1, isZ_tf, tf_z, tf_le, I_lit, I_inB, I_tcN, I_lt, I_le, I_eq, ↓reduceIte, not_true_eq_false, not_false_eq_true, nz, hj]
theorem mwid_loop (hS : MS o S) (hG : GB S g Y) (hg : g < 6) (kk : Int32 → Option Int32) : ∀ (fuel i : Nat), 1 ≤ i → 1 ≤ fuel → gn S g < i + fuel → (i ≤ gn S g ∨ i = 1) → LX6_widest_4 kk o (I (g : Int)) fuel (I (mx (gap (pr S g) (pd S g) (gn S g)) i)) (I (i : Int)) = kk (I (mx (gap (pr S g) (pd S g) (gn S g)) (max (gn S g) 1))) := by
  have h7 := get7 hS hg hG.n
  have hB := hG.p
  have hsj := hG.s
  have hn10 := hB.1
  have hr : ∀ p : Nat, p < gn S g → F_X6_ranked o (I (g : Int)) (I (p : Int)) = some (I (oi (pr S g) (gn S g) p : Int)) := fun p hp => ranked_in hS hg hG.n hB hsj hp
  have hp1 : ∀ k : Nat, k < 10 → F_X6_pointOf o (I (g : Int)) (I (k : Int)) (I 1) = some (I (pd S g k)) := fun k hk => pt1 hS hg hk
  intro fuel
  induction fuel with
  | zero => intro i h0 hf h1 h2; omega
  | succ fuel ih =>
    intro i h0 hf h1 h2
    rw [LX6_widest_4.eq_2]
    by_cases hi : (gn S g : Int) ≤ (i : Int)
    · have : i = max (gn S g) 1 := by omega
      rw [← this]
      simp (disch := omega) only [↓bd_e, bq_e, bn_e, grd_e, I_add, I_sub, I_mul, I_neg, isZ0, isZ1, isZ_tf, tf_z, tf_le, I_lit, I_inB, I_tcN, I_lt, I_le, I_eq, ↓reduceIte, not_true_eq_false, not_false_eq_true, nz, h7, hi]
    · have hm := mx_rg (f := gap (pr S g) (pd S g) (gn S g)) (n := i) (M := 2000) (by omega) (fun k hk => (gap_rg hB hsj (by omega)).2)
      have g1 := oi_sp hsj (p := i) (by omega)
      have g2 := oi_sp hsj (p := i - 1) (by omega)
      have g3 := (hB.2.2.2.2 _ g1.1).2.1
      have g4 := (hB.2.2.2.2 _ g2.1).2.1
      have e : I ((i : Int) - 1) = I ((i - 1 : Nat) : Int) := by congr 1; omega
      have e2 : mx (gap (pr S g) (pd S g) (gn S g)) (i + 1) = max (mx (gap (pr S g) (pd S g) (gn S g)) i) (pd S g (oi (pr S g) (gn S g) i) - pd S g (oi (pr S g) (gn S g) (i - 1))) := by
        show max (mx (gap (pr S g) (pd S g) (gn S g)) i) (gap (pr S g) (pd S g) (gn S g) i) = _
        unfold gap
        rw [if_neg (show ¬ i = 0 by omega)]
      have hrec := ih (i + 1) (by omega) (by omega) (by omega) (by omega)
      rw [e2] at hrec
      by_cases hc : pd S g (oi (pr S g) (gn S g) i) - pd S g (oi (pr S g) (gn S g) (i - 1)) ≤ mx (gap (pr S g) (pd S g) (gn S g)) i
      · rw [Int.max_eq_left hc] at hrec
        simp (disch := omega) only [↓bd_e, bq_e, bn_e, grd_e, I_add, I_sub, I_mul, I_neg, isZ0, isZ1, isZ_tf, tf_z, tf_le, I_lit, I_inB, I_tcN, I_lt, I_le, I_eq, ↓reduceIte, not_true_eq_false, not_false_eq_true, nz, h7, hi, hr, hp1, e, hc]
        exact hrec
      · rw [Int.max_eq_right (by omega)] at hrec
        simp (disch := omega) only [↓bd_e, bq_e, bn_e, grd_e, I_add, I_sub, I_mul, I_neg, isZ0, isZ1, isZ_tf, tf_z, tf_le, I_lit, I_inB, I_tcN, I_lt, I_le, I_eq, ↓reduceIte, not_true_eq_false, not_false_eq_true, nz, h7, hi, hr, hp1, e, hc]
        exact hrec
theorem mwid_e (hS : MS o S) (hG : GB S g Y) (hg : g < 6) : F_X6_widest o (I (g : Int)) = some (I (wid S g)) := by
  have hn10 := hG.p.1
  unfold F_X6_widest
  simp only [↓bd_e, bq_e, bn_e, grd_e, I_add, I_sub, I_mul, I_neg, isZ0, isZ1, isZ_tf, tf_z, tf_le, I_lit, I_inB, I_tcN, I_lt, I_le, I_eq, ↓reduceIte, not_true_eq_false, not_false_eq_true, nz]
  exact mwid_loop hS hG hg (fun v => some v) FU 1 (by omega) (by unfold FU; omega) (by unfold FU; omega) (by omega)
theorem wid_rg (hG : GB S g Y) : 0 ≤ wid S g ∧ wid S g ≤ 2000 := by
  have hn10 := hG.p.1
  unfold wid
  refine mx_rg (by omega) (fun k hk => ?_)
  by_cases h : k < gn S g
  · exact (gap_rg hG.p hG.s h).2
  · unfold gap
    rw [if_pos (by omega)]
    omega
theorem dpt_rg (hG : GB S g Y) : 0 ≤ dpt S g ∧ dpt S g ≤ 11 := by
  have hn10 := hG.p.1
  unfold dpt
  exact mx_rg (by omega) (fun k hk => by have := dep_le (r := pr S g) (k := k); omega)
theorem ofg_rg (hG : GB S g Y) (hY : Y ≤ 1000000) (w : Int) : -1 ≤ ofg S g w ∧ ofg S g w ≤ 1000000 := by
  have hn10 := hG.p.1
  have h1 := wid_rg hG
  have h2 := dpt_rg hG
  have h3 := val_01 S g
  have h4 := ref_rg S g
  obtain ⟨a1, a2, a3, a4, a5, a6, a7, -⟩ := hG
  unfold ofg
  repeat' split
  all_goals omega
theorem ofGlass_e (hS : MS o S) (hB : SB S Y) (hY : Y ≤ 1000000) (hg : g < gm S) {w : Int} (h1 : 0 ≤ w) (h2 : w ≤ 8) : F_X6_ofGlass o (I (g : Int)) (I w) = some (I (ofg S g w)) := by
  have hm := hB.m
  have hG := hB.g hg
  have hg' : ∀ w : Int, 0 ≤ w → w < 38 → F_X6_get o (I (g : Int)) (I w) = some (I (S (38 * (g : Int) + w))) := fun w a b => get_e hS (by omega) a b
  have h7 := hG.n
  have hd := mdepth_e hS (by omega) hG.n hG.p
  have hv := misValid_e hS hB hY hG (by omega)
  have hr := refusal_e hS hB hY hg
  have hw := mwid_e hS hG (by omega)
  have v01 := val_01 S g
  have hcases : w = 0 ∨ w = 1 ∨ w = 2 ∨ w = 3 ∨ w = 4 ∨ w = 5 ∨ w = 6 ∨ w = 7 ∨ w = 8 := by omega
  unfold F_X6_ofGlass ofg
  rcases hcases with rfl | rfl | rfl | rfl | rfl | rfl | rfl | rfl | rfl
  · simp (disch := omega) only [↓bd_e, bq_e, bn_e, grd_e, I_add, I_sub, I_mul, I_neg, isZ0, isZ1, isZ_tf, tf_z, tf_le, I_lit, I_inB, I_tcN, I_lt, I_le, I_eq, ↓reduceIte, not_true_eq_false, not_false_eq_true, nz, hg']; rfl
  · simp (disch := omega) only [↓bd_e, bq_e, bn_e, grd_e, I_add, I_sub, I_mul, I_neg, isZ0, isZ1, isZ_tf, tf_z, tf_le, I_lit, I_inB, I_tcN, I_lt, I_le, I_eq, ↓reduceIte, not_true_eq_false, not_false_eq_true, nz, hg', Int.reduceEq]; rfl
  · simp (disch := omega) only [↓bd_e, bq_e, bn_e, grd_e, I_add, I_sub, I_mul, I_neg, isZ0, isZ1, isZ_tf, tf_z, tf_le, I_lit, I_inB, I_tcN, I_lt, I_le, I_eq, ↓reduceIte, not_true_eq_false, not_false_eq_true, nz, hg', Int.reduceEq]; rfl
  · simp (disch := omega) only [↓bd_e, bq_e, bn_e, grd_e, I_add, I_sub, I_mul, I_neg, isZ0, isZ1, isZ_tf, tf_z, tf_le, I_lit, I_inB, I_tcN, I_lt, I_le, I_eq, ↓reduceIte, not_true_eq_false, not_false_eq_true, nz, hg', Int.reduceEq, h7]
  · simp (disch := omega) only [↓bd_e, bq_e, bn_e, grd_e, I_add, I_sub, I_mul, I_neg, isZ0, isZ1, isZ_tf, tf_z, tf_le, I_lit, I_inB, I_tcN, I_lt, I_le, I_eq, ↓reduceIte, not_true_eq_false, not_false_eq_true, nz, hd, Int.reduceEq]; rfl
  · simp (disch := omega) only [↓bd_e, bq_e, bn_e, grd_e, I_add, I_sub, I_mul, I_neg, isZ0, isZ1, isZ_tf, tf_z, tf_le, I_lit, I_inB, I_tcN, I_lt, I_le, I_eq, ↓reduceIte, not_true_eq_false, not_false_eq_true, nz, hg', Int.reduceEq]
  · rcases v01 with v | v <;> simp (disch := omega) only [↓bd_e, bq_e, bn_e, grd_e, I_add, I_sub, I_mul, I_neg, isZ0, isZ1, isZ_tf, tf_z, tf_le, I_lit, I_inB, I_tcN, I_lt, I_le, I_eq, ↓reduceIte, not_true_eq_false, not_false_eq_true, nz, hv, v, Int.reduceEq]
  · simp (disch := omega) only [↓bd_e, bq_e, bn_e, grd_e, I_add, I_sub, I_mul, I_neg, isZ0, isZ1, isZ_tf, tf_z, tf_le, I_lit, I_inB, I_tcN, I_lt, I_le, I_eq, ↓reduceIte, not_true_eq_false, not_false_eq_true, nz, hr, Int.reduceEq]
  · simp (disch := omega) only [↓bd_e, bq_e, bn_e, grd_e, I_add, I_sub, I_mul, I_neg, isZ0, isZ1, isZ_tf, tf_z, tf_le, I_lit, I_inB, I_tcN, I_lt, I_le, I_eq, ↓reduceIte, not_true_eq_false, not_false_eq_true, nz, hw, Int.reduceEq]
theorem ofPoint_e (hS : MS o S) (hB : SB S Y) (hg : g < gm S) {p w : Int} (hp0 : 0 ≤ p) (hp : p < 2147483648) (h1 : 0 ≤ w) (h2 : w ≤ 3) : F_X6_ofPoint o (I (g : Int)) (I p) (I w) = some (I (ofp S g p w)) := by
  have hm := hB.m
  have hG := hB.g hg
  have hg6 : g < 6 := by omega
  have hn10 := hG.p.1
  unfold F_X6_ofPoint ofp
  by_cases c : p < (gn S g : Int)
  · obtain ⟨k, rfl⟩ : ∃ k : Nat, p = (k : Int) := ⟨p.toNat, by omega⟩
    have hr := ranked_in hS hg6 hG.n hG.p hG.s (p := k) (by omega)
    have ho := oi_sp hG.s (p := k) (by omega)
    have hk0 := pt0 hS hg6 (k := oi (pr S g) (gn S g) k) (by omega)
    have hk1 := pt1 hS hg6 (k := oi (pr S g) (gn S g) k) (by omega)
    have hk2 := pt2 hS hg6 (k := oi (pr S g) (gn S g) k) (by omega)
    have hdp := depthOf_e hS hg6 hG.p (p := oi (pr S g) (gn S g) k) ho.1
    have e1 : ((oi (pr S g) (gn S g) k : Int) = -1) = False := eq_false (by omega)
    have hcases : w = 0 ∨ w = 1 ∨ w = 2 ∨ w = 3 := by omega
    rw [if_pos c, Int.toNat_natCast]
    rcases hcases with rfl | rfl | rfl | rfl
    · simp (disch := omega) only [↓bd_e, bq_e, bn_e, grd_e, I_add, I_sub, I_mul, I_neg, isZ0, isZ1, isZ_tf, tf_z, tf_le, I_lit, I_inB, I_tcN, I_lt, I_le, I_eq, ↓reduceIte, not_true_eq_false, not_false_eq_true, nz, hr, e1, hk0, Int.reduceEq, Int.reduceLE]
    · simp (disch := omega) only [↓bd_e, bq_e, bn_e, grd_e, I_add, I_sub, I_mul, I_neg, isZ0, isZ1, isZ_tf, tf_z, tf_le, I_lit, I_inB, I_tcN, I_lt, I_le, I_eq, ↓reduceIte, not_true_eq_false, not_false_eq_true, nz, hr, e1, hk1, Int.reduceEq, Int.reduceLE]
    · simp (disch := omega) only [↓bd_e, bq_e, bn_e, grd_e, I_add, I_sub, I_mul, I_neg, isZ0, isZ1, isZ_tf, tf_z, tf_le, I_lit, I_inB, I_tcN, I_lt, I_le, I_eq, ↓reduceIte, not_true_eq_false, not_false_eq_true, nz, hr, e1, hk2, Int.reduceEq, Int.reduceLE, Int.add_zero]
    · simp (disch := omega) only [↓bd_e, bq_e, bn_e, grd_e, I_add, I_sub, I_mul, I_neg, isZ0, isZ1, isZ_tf, tf_z, tf_le, I_lit, I_inB, I_tcN, I_lt, I_le, I_eq, ↓reduceIte, not_true_eq_false, not_false_eq_true, nz, hr, e1, hdp, Int.reduceEq, Int.reduceLE]
  · have hr := ranked_out hS hg6 hG.n hG.p (p := p) (by omega) hp
    rw [if_neg c]
    simp (disch := omega) only [↓bd_e, bq_e, bn_e, grd_e, I_add, I_sub, I_mul, I_neg, isZ0, isZ1, isZ_tf, tf_z, tf_le, I_lit, I_inB, I_tcN, I_lt, I_le, I_eq, ↓reduceIte, not_true_eq_false, not_false_eq_true, nz, hr]
theorem correctedOr_e (hS : MS o S) (hG : GB S g Y) (hg : g < 6) {x : Int} (hx1 : -200000 ≤ x) (hx2 : x ≤ 200000) : F_X6_correctedOr o (I (g : Int)) (I x) = some (I (cor S g x)) := by
  have ha := areEnough_e hS hG hg
  unfold F_X6_correctedOr cor
  by_cases c : 2 ≤ gn S g
  · have hc := correction_f hS hG hg c hx1 hx2
    simp (disch := omega) only [↓bd_e, bq_e, bn_e, grd_e, I_add, I_sub, I_mul, I_neg, isZ0, isZ1, isZ_tf, tf_z, tf_le, I_lit, I_inB, I_tcN, I_lt, I_le, I_eq, ↓reduceIte, not_true_eq_false, not_false_eq_true, nz, ha, c, hc]
  · simp (disch := omega) only [↓bd_e, bq_e, bn_e, grd_e, I_add, I_sub, I_mul, I_neg, isZ0, isZ1, isZ_tf, tf_z, tf_le, I_lit, I_inB, I_tcN, I_lt, I_le, I_eq, ↓reduceIte, not_true_eq_false, not_false_eq_true, nz, ha, c]
theorem sum_loop (hS : MS o S) (hB : SB S Y) (hY : Y ≤ 1000000) (kk : Int32 → Option Int32) {w : Int} (hw : w = 2 ∨ w = 3 ∨ w = 5) (f : Nat → Int) (hf : f = if w = 2 then (fun g => (gn S g : Int)) else if w = 3 then (fun g => val S g) else (fun g => S (38 * (g : Int) + 4))) : ∀ (fuel i : Nat), gm S < i + fuel → i ≤ gm S → LX6_sumOf_4 kk o (I w) fuel (I (sm f i)) (I (i : Int)) = kk (I (sm f (gm S))) := by
  have hS' : ∀ a : Int, 0 ≤ a → a < 244 → rd o 20 0 (I a).toNatClampNeg = I (S a) := hS
  have hm := hB.m
  have hs228 := hm.1
  have hg' : ∀ g : Nat, g < 6 → ∀ w : Int, 0 ≤ w → w < 38 → F_X6_get o (I (g : Int)) (I w) = some (I (S (38 * (g : Int) + w))) := fun g hg w a b => get_e hS hg a b
  intro fuel
  induction fuel with
  | zero => intro i h1 h2; omega
  | succ fuel ih =>
    intro i h1 h2
    rw [LX6_sumOf_4.eq_2]
    by_cases hi : (gm S : Int) ≤ (i : Int)
    · have : i = gm S := by omega
      rw [← this]
      rw [← this] at hi hs228
      simp (disch := omega) only [↓bd_e, bq_e, bn_e, grd_e, I_add, I_sub, I_mul, I_neg, isZ0, isZ1, isZ_tf, tf_z, tf_le, I_lit, I_inB, I_tcN, I_lt, I_le, I_eq, ↓reduceIte, not_true_eq_false, not_false_eq_true, nz, hS', hs228, hi]
    · have hG := hB.g (g := i) (by omega)
      have h7 := hG.n
      have hv := misValid_e hS hB hY hG (by omega)
      have v01 := val_01 S i
      have hrec := ih (i + 1) (by omega) (by omega)
      have e2 : sm f (i + 1) = sm f i + f i := rfl
      rw [e2] at hrec
      rcases hw with rfl | rfl | rfl
      · have ef : f i = (gn S i : Int) := by rw [hf]; rfl
        rw [ef] at hrec
        simp (disch := omega) only [↓bd_e, bq_e, bn_e, grd_e, I_add, I_sub, I_mul, I_neg, isZ0, isZ1, isZ_tf, tf_z, tf_le, I_lit, I_inB, I_tcN, I_lt, I_le, I_eq, ↓reduceIte, not_true_eq_false, not_false_eq_true, nz, hS', hs228, hi, hg', h7]
        exact hrec
      · have ef : f i = val S i := by rw [hf]; rfl
        rw [ef] at hrec
        rcases v01 with v | v
        · rw [v] at hrec hv
          simp (disch := omega) only [↓bd_e, bq_e, bn_e, grd_e, I_add, I_sub, I_mul, I_neg, isZ0, isZ1, isZ_tf, tf_z, tf_le, I_lit, I_inB, I_tcN, I_lt, I_le, I_eq, ↓reduceIte, not_true_eq_false, not_false_eq_true, nz, hS', hs228, hi, hv, Int.reduceEq]
          exact hrec
        · rw [v] at hrec hv
          simp (disch := omega) only [↓bd_e, bq_e, bn_e, grd_e, I_add, I_sub, I_mul, I_neg, isZ0, isZ1, isZ_tf, tf_z, tf_le, I_lit, I_inB, I_tcN, I_lt, I_le, I_eq, ↓reduceIte, not_true_eq_false, not_false_eq_true, nz, hS', hs228, hi, hv, Int.reduceEq]
          exact hrec
      · have ef : f i = S (38 * (i : Int) + 4) := by rw [hf]; rfl
        rw [ef] at hrec
        simp (disch := omega) only [↓bd_e, bq_e, bn_e, grd_e, I_add, I_sub, I_mul, I_neg, isZ0, isZ1, isZ_tf, tf_z, tf_le, I_lit, I_inB, I_tcN, I_lt, I_le, I_eq, ↓reduceIte, not_true_eq_false, not_false_eq_true, nz, hS', hs228, hi, hg', Int.reduceEq]
        exact hrec
theorem sumOf_e (hS : MS o S) (hB : SB S Y) (hY : Y ≤ 1000000) {w : Int} (hw : w = 2 ∨ w = 3 ∨ w = 5) : F_X6_sumOf o (I w) = some (I (sof S w)) := by
  have hm := hB.m
  have := sum_loop hS hB hY (fun v => some v) hw _ rfl FU 0 (by unfold FU; omega) (by omega)
  unfold F_X6_sumOf sof
  simp only [↓bd_e, bq_e, bn_e, grd_e, I_add, I_sub, I_mul, I_neg, isZ0, isZ1, isZ_tf, tf_z, tf_le, I_lit, I_inB, I_tcN, I_lt, I_le, I_eq, ↓reduceIte, not_true_eq_false, not_false_eq_true, nz]
  refine Eq.trans this ?_
  rcases hw with rfl | rfl | rfl <;> rfl
theorem worst_loop (hS : MS o S) {h : Nat} (hG : GB S g Y) (hH : GB S h Y) (hg : g < 6) (hh : h < 6) (kk : Int32 → Option Int32) : ∀ (fuel n : Nat) (f m z : Int), n < fuel → z + 100 * (n : Int) = 1600 → -400 ≤ z → -1 ≤ f → f ≤ 12000 → -1 ≤ m → m ≤ 1200000000 → LX6_worst_10 kk o (I (g : Int)) (I (h : Int)) fuel (I f) (I m) (I z) = kk (I (wsp S g h n f m z)) := by
  intro fuel
  induction fuel with
  | zero => intro n f m z h1; omega
  | succ fuel ih =>
    intro n f m z h1 h2 h3 h4 h5 h6 h7
    rw [LX6_worst_10.eq_2]
    cases n with
    | zero =>
      have c : (1500 < z) = True := eq_true (by omega)
      simp (disch := omega) only [↓bd_e, bq_e, bn_e, grd_e, I_add, I_sub, I_mul, I_neg, isZ0, isZ1, isZ_tf, tf_z, tf_le, I_lit, I_inB, I_tcN, I_lt, I_le, I_eq, ↓reduceIte, not_true_eq_false, not_false_eq_true, nz, c]
      rfl
    | succ n =>
      have c : (1500 < z) = False := eq_false (by omega)
      have ho := overlapOf_e hS hG hH hg hh (z := z) (by omega) (by omega)
      have hor := ovl_rg hG hH (z := z) (by omega) (by omega)
      unfold wsp
      by_cases c2 : ovl S g h z ≤ m
      · have hrec := ih n f m (z + 100) (by omega) (by omega) (by omega) h4 h5 h6 h7
        simp (disch := omega) only [↓bd_e, bq_e, bn_e, grd_e, I_add, I_sub, I_mul, I_neg, isZ0, isZ1, isZ_tf, tf_z, tf_le, I_lit, I_inB, I_tcN, I_lt, I_le, I_eq, ↓reduceIte, not_true_eq_false, not_false_eq_true, nz, c, ho, c2]
        exact hrec
      · have hrec := ih n (z + 10000) (ovl S g h z) (z + 100) (by omega) (by omega) (by omega) (by omega) (by omega) (by omega) (by omega)
        simp (disch := omega) only [↓bd_e, bq_e, bn_e, grd_e, I_add, I_sub, I_mul, I_neg, isZ0, isZ1, isZ_tf, tf_z, tf_le, I_lit, I_inB, I_tcN, I_lt, I_le, I_eq, ↓reduceIte, not_true_eq_false, not_false_eq_true, nz, c, ho, c2]
        exact hrec
theorem worst_e (hS : MS o S) {h : Nat} (hG : GB S g Y) (hH : GB S h Y) (hg : g < 6) (hh : h < 6) : F_X6_worst o (I (g : Int)) (I (h : Int)) = some (I (wst S g h)) := by
  unfold F_X6_worst
  simp only [↓bd_e, bq_e, bn_e, grd_e, I_add, I_sub, I_mul, I_neg, isZ0, isZ1, isZ_tf, tf_z, tf_le, I_lit, I_inB, I_tcN, I_lt, I_le, I_eq, ↓reduceIte, not_true_eq_false, not_false_eq_true, nz]
  exact worst_loop hS hG hH hg hh (fun v => some v) FU 20 (-1) (-1) (-400) (by unfold FU; omega) (by omega) (by omega) (by omega) (by omega) (by omega) (by omega)
end
