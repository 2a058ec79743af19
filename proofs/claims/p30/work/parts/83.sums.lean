/-! sums over the thermometers -/
def shv (m n : Nat) : UInt64 := if m = 0 then FP.dconst1 else FP.ddiv (FP.i2d (I (n : Int))) (FP.i2d (I (m : Int)))
theorem shv_ok : ∀ m, m < 7 → ∀ n, n < 7 → n ≤ m → n64 (shv m n) = true ∧ Op.cmpValue (FP.dcmp (shv m n) (shv m n)) .l = 0 ∧ n64 (FP.dmul (FP.i2d (I (n : Int))) FP.dconst1) = true ∧ FP.dmul (FP.i2d (I (n : Int))) FP.dconst1 = FP.i2d (I (n : Int)) := by decide +kernel
def shn (S : Int → Int) : Nat := (sof S 3).toNat
theorem b0_e {α β γ : Type} {x : Option ((Nat × α) × β)} {v : α} {o : β} (e : x = some ((0, v), o)) (K : α → β → Option γ) : b0 x K = K v o := by
  rw [e]
  rfl
section
variable {o : OM} {S : Int → Int} {Y : Nat} {q : Qt}
theorem shn_rg (hB : SB S Y) : sof S 3 = (shn S : Int) ∧ shn S ≤ gm S ∧ shn S < 7 ∧ gm S < 7 := by
  have hm := hB.m
  have h : 0 ≤ sm (fun g => val S g) (gm S) ∧ sm (fun g => val S g) (gm S) ≤ 1 * (gm S : Int) := sm_rg (fun k _ => by rcases val_01 S k with e | e <;> (show 0 ≤ val S k ∧ val S k ≤ 1) <;> omega) (by omega)
  have e : sof S 3 = sm (fun g => val S g) (gm S) := rfl
  unfold shn
  rw [e]
  omega
theorem x_share (hC : CS o 0 S) (hB : SB S Y) (hY : Y ≤ 1000000) : F_X5_validShare o = some (shv (gm S) (shn S)) := by
  have hm := hB.m
  obtain ⟨e1, e2, e3, e4⟩ := shn_rg hB
  have hk := (shv_ok _ e4 _ e3 e2).1
  have c2 := hC.2.2.1
  rw [hm.1] at c2
  have hv := validPapers_e hC hB hY
  rw [e1] at hv
  unfold F_X5_validShare
  rw [c2]
  by_cases h : gm S = 0
  · rw [h, if_pos (by decide)]
    rfl
  · unfold shv at hk ⊢
    rw [if_neg h] at hk ⊢
    rw [show (0 : Int32) = I 0 from rfl, if_neg (fun z => by have := I_inj (by omega) (by omega) (by omega) (by omega) z; omega), hv, bq_e, bd_e, hk, grd_e]
theorem ofg_0 (S : Int → Int) (g : Nat) : ofg S g 0 = S (38 * (g : Int) + 2) := rfl
theorem ofg_1 (S : Int → Int) (g : Nat) : ofg S g 1 = S (38 * (g : Int) + 3) := rfl
theorem ofg_2 (S : Int → Int) (g : Nat) : ofg S g 2 = S (38 * (g : Int) + 4) := rfl
theorem ofg_3 (S : Int → Int) (g : Nat) : ofg S g 3 = (gn S g : Int) := rfl
theorem ofg_4 (S : Int → Int) (g : Nat) : ofg S g 4 = dpt S g := rfl
theorem ofg_5 (S : Int → Int) (g : Nat) : ofg S g 5 = S (38 * (g : Int) + 5) := rfl
theorem ofg_6 (S : Int → Int) (g : Nat) : ofg S g 6 = val S g := rfl
theorem ofg_7 (S : Int → Int) (g : Nat) : ofg S g 7 = ref S g := rfl
theorem ofg_8 (S : Int → Int) (g : Nat) : ofg S g 8 = wid S g := rfl
theorem x_th (hC : CS o 0 S) (hB : SB S Y) (hY : Y ≤ 1000000) {g : Nat} (hg : g < gm S) (w : Nat) (hw : w ≤ 8) : F_X5_thermometer o (I (g : Int)) (I (w : Int)) = some ((0, I (ofg S g (w : Int))), o) := x_thermo hC hB hY hg (by omega) (by omega)
theorem seal_loop (hP : RP o S q) (hB : SB S Y) (hI : INV S) (hY : Y ≤ 700000) {g : Nat} (hg : g < gm S) (kk : OM → Int32 → Option (Int32 × OM)) : ∀ (fuel i : Nat), g < i + fuel → i ≤ g → LL_areSums_124 kk (I (g : Int)) fuel o (I 1) (I (i : Int)) = kk o (I 1) := by
  have hm := hB.m
  intro fuel
  induction fuel with
  | zero => intro i h1 h2; omega
  | succ fuel ih =>
    intro i h1 h2
    rw [LL_areSums_124.eq_2]
    dsimp only
    by_cases c : i = g
    · rw [if_pos (by rw [I_le (by omega) (by omega) (by omega) (by omega)]; omega)]
    · have t1 := x_th hP.1 hB (by omega) (g := i) (by omega) 5 (by omega)
      have t2 := x_th hP.1 hB (by omega) hg 5 (by omega)
      have s1 := (hI.1 i (by omega)).2.2.1
      have s2 := (hI.1 g hg).2.2.1
      have hs := hI.2 i g (by omega) hg c
      have q4 := hB.2.2.2.1
      rw [show ((5 : Nat) : Int) = 5 from rfl, ofg_5] at t1 t2
      rw [if_neg (by rw [I_le (by omega) (by omega) (by omega) (by omega)]; omega), show (-1 : Int32) = I (-1) from rfl, show (1 : Int32) = I 1 from rfl, show (0 : Int32) = I 0 from rfl, show (5 : Int32) = I 5 from rfl]
      rw [bd_e, bd_e, if_neg (show ¬ I 1 = I 0 by decide), b0_e t1, bd_e]
      have nx := ih (i + 1) (by omega) (by omega)
      have fin : bd (I (i : Int) + I 1) (fun v6_51 : Int32 => LL_areSums_124 kk (I (g : Int)) fuel o (I 1) v6_51) = kk o (I 1) := by
        rw [bd_e, I_add]
        exact nx
      by_cases e : S (38 * (i : Int) + 5) = -1
      · rw [if_pos (by rw [e])]
        exact fin
      · rw [if_neg (by rw [I_eq (by omega) (by omega) (by omega) (by omega)]; exact e), b0_e t1, b0_e t2, if_neg (by rw [I_eq (by omega) (by omega) (by omega) (by omega)]; omega)]
        exact fin
theorem sums_loop (hP : RP o S q) (hB : SB S Y) (hI : INV S) (hY : Y ≤ 700000) (kk : OM → Int32 → Int32 → Int32 → Int32 → Option (Int32 × OM)) : ∀ (fuel i : Nat), gm S < i + fuel → i ≤ gm S → LL_areSums_12 kk fuel o (I (sm (fun g => (gn S g : Int)) i)) (I (sm (fun g => val S g) i)) (I (sm (fun g => S (38 * (g : Int) + 4)) i)) (I 1) (I (i : Int)) = kk o (I (sm (fun g => (gn S g : Int)) (gm S))) (I (sm (fun g => val S g) (gm S))) (I (sm (fun g => S (38 * (g : Int) + 4)) (gm S))) (I 1) := by
  have hm := hB.m
  intro fuel
  induction fuel with
  | zero => intro i h1 h2; omega
  | succ fuel ih =>
    intro i h1 h2
    rw [LL_areSums_12.eq_2]
    dsimp only
    have n := x_cnt hP hB (by omega) (w := 1) (by omega) (by omega)
    rw [cts_1 hB] at n
    rw [show (1 : Int32) = I 1 from rfl, b0_e n]
    by_cases c : i = gm S
    · rw [c, if_pos (by rw [I_le (by omega) (by omega) (by omega) (by omega)]; omega)]
    · have hi : i < gm S := by omega
      have hG := hB.g hi
      have iG := hI.1 i hi
      have t := fun w hw => x_th hP.1 hB (by omega) hi w hw
      have t0 := t 0 (by omega)
      have t1 := t 1 (by omega)
      have t2 := t 2 (by omega)
      have t3 := t 3 (by omega)
      have t6 := t 6 (by omega)
      have y0 := x_cnt hP hB (by omega) (w := 0) (by omega) (by omega)
      rw [show cts S q.1.1 0 = S 233 from rfl] at y0
      rw [show ((0 : Nat) : Int) = 0 from rfl, ofg_0] at t0
      rw [show ((1 : Nat) : Int) = 1 from rfl, ofg_1] at t1
      rw [show ((2 : Nat) : Int) = 2 from rfl, ofg_2] at t2
      rw [show ((3 : Nat) : Int) = 3 from rfl, ofg_3] at t3
      rw [show ((6 : Nat) : Int) = 6 from rfl, ofg_6] at t6
      obtain ⟨-, -, b2, b3, b4, -⟩ := hG
      have a1 := iG.1
      have q3 := hB.2.2.1
      rw [if_neg (by rw [I_le (by omega) (by omega) (by omega) (by omega)]; omega), show (0 : Int32) = I 0 from rfl, show (3 : Int32) = I 3 from rfl, show (6 : Int32) = I 6 from rfl, show (2 : Int32) = I 2 from rfl, show (4 : Int32) = I 4 from rfl]
      rw [b0_e t3, bd_e, b0_e t6, bd_e, b0_e t2, bd_e, bd_e, bd_e, if_neg (show ¬ I 1 = I 0 by decide), b0_e t1, if_neg (by rw [I_lt (by omega) (by omega) (by omega) (by omega)]; omega), b0_e t1, b0_e y0, if_neg (by rw [I_lt (by omega) (by omega) (by omega) (by omega)]; omega), b0_e t2, if_neg (by rw [I_lt (by omega) (by omega) (by omega) (by omega)]; omega), b0_e t0, if_neg (by rw [I_lt (by omega) (by omega) (by omega) (by omega)]; omega), b0_e t0, if_neg (by rw [I_le (by omega) (by omega) (by omega) (by omega)]; omega)]
      dsimp only
      rw [bd_e, I_add, I_add, I_add, I_add]
      have hFU : 300 < FU := by unfold FU; omega
      generalize FU = F at hFU ⊢
      have sl := seal_loop hP hB hI hY hi (fun (o_44 : OM) (v4_43 : Int32) => bd (I ((i : Int) + 1)) (fun v5_45 : Int32 => (LL_areSums_12 kk fuel) o_44 (I (sm (fun g => (gn S g : Int)) i + (gn S i : Int))) (I (sm (fun g => val S g) i + val S i)) (I (sm (fun g => S (38 * (g : Int) + 4)) i + S (38 * (i : Int) + 4))) v4_43 v5_45)) F 0 (by omega) (by omega)
      refine sl.trans ?_
      rw [bd_e]
      exact ih (i + 1) (by omega) (by omega)
theorem sums_e (hP : RP o S q) (hB : SB S Y) (hI : INV S) (hY : Y ≤ 700000) : F_L_areSums o = some (I 1, o) := by
  have hm := hB.m
  have hFU : 300 < FU := by unfold FU; omega
  obtain ⟨e1, e2, e3, e4⟩ := shn_rg hB
  obtain ⟨k1, k2, k3, k4⟩ := shv_ok _ e4 _ e3 e2
  have n := x_cnt hP hB (by omega) (w := 1) (by omega) (by omega)
  rw [cts_1 hB] at n
  have n2 := x_cnt hP hB (by omega) (w := 2) (by omega) (by omega)
  have n3 := x_cnt hP hB (by omega) (w := 3) (by omega) (by omega)
  have n5 := x_cnt hP hB (by omega) (w := 5) (by omega) (by omega)
  rw [show cts S q.1.1 2 = sm (fun g => (gn S g : Int)) (gm S) from rfl] at n2
  rw [show cts S q.1.1 3 = sm (fun g => val S g) (gm S) from rfl] at n3
  rw [show cts S q.1.1 5 = sm (fun g => S (38 * (g : Int) + 4)) (gm S) from rfl] at n5
  have hs := x_share hP.1 hB (by omega)
  have ev : sm (fun g => val S g) (gm S) = (shn S : Int) := e1
  unfold F_L_areSums
  generalize FU = F at hFU ⊢
  have sl := fun kk => sums_loop hP hB hI hY kk F 0 (by omega) (by omega)
  rw [bd_e, show (0 : Int32) = I 0 from rfl, show (1 : Int32) = I 1 from rfl, show (2 : Int32) = I 2 from rfl, show (3 : Int32) = I 3 from rfl, show (5 : Int32) = I 5 from rfl]
  refine (sl _).trans ?_
  (try dsimp only)
  rw [b0_e n, bd_e]
  have fin : ∀ s8 : UInt64, s8 = shv (gm S) (shn S) → (bd (fun (o_11 : OM) (s_10 : Int32) => grd (isZ s_10) (some (s_10, o_11))) (fun k255 => bd (fun (o_12 : OM) => k255 o_12 (I 0)) (fun k254 => if I 1 = I 0 then (k254 o) else (b0 (F_X5_count o (I 2)) (fun r_13 o_14 => if I (sm (fun g => (gn S g : Int)) (gm S)) = r_13 then (b0 (F_X5_count o_14 (I 3)) (fun r_15 o_16 => if I (sm (fun g => val S g) (gm S)) = r_15 then (b0 (F_X5_count o_16 (I 5)) (fun r_17 o_18 => if I (sm (fun g => S (38 * (g : Int) + 4)) (gm S)) = r_17 then (bq (F_X5_validShare o_18) (fun r_19 => if (Op.cmpValue (FP.dcmp r_19 s8) .l) = I 0 then (k255 o_18 (I 1)) else (k254 o_18))) else (k254 o_18))) else (k254 o_16))) else (k254 o_14)))))) = some (I 1, o) := by
    intro s8 h8
    rw [bd_e, bd_e, if_neg (show ¬ I 1 = I 0 by decide), b0_e n2, if_pos rfl, b0_e n3, if_pos rfl, b0_e n5, if_pos rfl, hs, bq_e, h8, k2, if_pos (by rfl)]
    (try dsimp only)
    rw [isZ1, grd_e]
  by_cases c : gm S = 0
  · rw [if_pos (show I (gm S : Int) = I 0 by rw [c]; rfl)]
    exact fin _ (by unfold shv; rw [if_pos c])
  · rw [if_neg (fun z => by have := I_inj (by omega) (by omega) (by omega) (by omega) z; omega), bd_e, ev, k3, grd_e, k4, b0_e n, bd_e]
    have k5 : shv (gm S) (shn S) = FP.ddiv (FP.i2d (I (shn S : Int))) (FP.i2d (I (gm S : Int))) := by unfold shv; rw [if_neg c]
    rw [← k5, k1, grd_e]
    rw [← ev]
    exact fin _ rfl
end
