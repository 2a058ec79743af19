/-! an act by a cell -/
def lw (a b : Int32) : Int32 := (a &&& 2147483647) - (a &&& 2147483647) / b * b
theorem low_e (o : OM) (a : Int32) {b : Int32} (h : ¬ b = 0) : F_L_low o a b = some (lw a b) := by
  unfold F_L_low
  rw [decide_eq_true h, grd_e]
  rfl
theorem low_32 (o : OM) (a : Int32) : F_L_low o a ((32 : Int32)) = some (lw a 32) := low_e o a (by decide)
theorem low_7 (o : OM) (a : Int32) : F_L_low o a ((7 : Int32)) = some (lw a 7) := low_e o a (by decide)
theorem low_8 (o : OM) (a : Int32) : F_L_low o a ((8 : Int32)) = some (lw a 8) := low_e o a (by decide)
theorem low_120 (o : OM) (a : Int32) : F_L_low o a ((120 : Int32)) = some (lw a 120) := low_e o a (by decide)
theorem low_21 (o : OM) (a : Int32) : F_L_low o a ((21 : Int32)) = some (lw a 21) := low_e o a (by decide)
theorem low_2100 (o : OM) (a : Int32) : F_L_low o a ((2100 : Int32)) = some (lw a 2100) := low_e o a (by decide)
theorem low_1901 (o : OM) (a : Int32) : F_L_low o a ((1901 : Int32)) = some (lw a 1901) := low_e o a (by decide)
theorem low_25 (o : OM) (a : Int32) : F_L_low o a ((25 : Int32)) = some (lw a 25) := low_e o a (by decide)
theorem low_4 (o : OM) (a : Int32) : F_L_low o a ((4 : Int32)) = some (lw a 4) := low_e o a (by decide)
theorem low_5 (o : OM) (a : Int32) : F_L_low o a ((5 : Int32)) = some (lw a 5) := low_e o a (by decide)
theorem low_110 (o : OM) (a : Int32) : F_L_low o a ((110 : Int32)) = some (lw a 110) := low_e o a (by decide)
theorem low_101 (o : OM) (a : Int32) : F_L_low o a ((101 : Int32)) = some (lw a 101) := low_e o a (by decide)
theorem low_1 (o : OM) (a : Int32) : F_L_low o a ((1 : Int32)) = some (lw a 1) := low_e o a (by decide)
def nxT (q : Qt) (S : Int → Int) (t : Int32) : Qt := if t = 0 then pushQ q S else q
def AL (P : OM → Option (Int32 × OM)) (S : Int → Int) (Y : Nat) : Prop := ∃ (t : Int32) (r : Int) (S' : Int → Int), INV S' ∧ (t ≠ 0 → S' = S) ∧
  ∀ o q, RP o S q → RB S q Y → ∃ o1, P o = some (t, o1) ∧ RP o1 S' (nxT q S t) ∧ RB S' (nxT q S t) (Y + 1200) ∧ (t = 0 → rd o1 24 0 0 = I r)
theorem al_cong {P P' : OM → Option (Int32 × OM)} {S : Int → Int} {Y : Nat} (h : ∀ o q, RP o S q → RB S q Y → P o = P' o) (h' : AL P' S Y) : AL P S Y := by
  obtain ⟨t, r, S', h1, h2, h3⟩ := h'
  refine ⟨t, r, S', h1, h2, fun o q hP hb => ?_⟩
  rw [h o q hP hb]
  exact h3 o q hP hb
theorem wc_0 {cs : List Nat} {c : Nat} (hk : okc cs c = true) : (wc c = 0 ↔ c = 0) := by
  unfold wc
  by_cases h : c = 0
  · simp [h]
  · rw [if_neg h]
    refine iff_of_false (fun z => ?_) h
    split at z
    · exact absurd z (by decide)
    · split at z
      · exact absurd z (by decide)
      · exact absurd z (by decide)
theorem RP.out {o : OM} {S : Int → Int} {q : Qt} (h : RP o S q) (v : Int32) : RP (wr o 24 0 0 v) S q := h.fr (fun k i hk _ => wr_ne _ _ (by omega)) (rd_wk _ _ (by omega))
theorem al_run {cs : List Nat} {P : OM → Option ((Nat × Int32) × OM)} {S S' : Int → Int} {c : Nat} {r : Int} {Y : Nat} (hk : okc cs c = true) (h : CHG P S S' c r Y) : ∀ o q, RP o S q → RB S q Y → ∃ o1, bn (P o) (fun q o1 => grd (okc cs q.1) (some (wc q.1, wo q o1))) = some (wc c, o1) ∧ RP o1 S' (nxT q S (wc c)) ∧ RB S' (nxT q S (wc c)) (Y + 1200) ∧ (wc c = 0 → rd o1 24 0 0 = I r) := by
  intro o q hP hb
  obtain ⟨o1, e1, g1, r1, b1⟩ := h o q hP hb
  have hw := wc_0 hk
  have en : nxT q S (wc c) = nxQ q S c := by
    unfold nxT nxQ
    by_cases h : c = 0
    · rw [if_pos h, if_pos (hw.mpr h)]
    · rw [if_neg h, if_neg (fun z => h (hw.mp z))]
  rw [en]
  refine ⟨wo (c, I r) o1, ?_, ?_, b1, fun z => ?_⟩
  · rw [e1, bn_e]
    dsimp only
    rw [hk, grd_e]
  · unfold wo
    split
    · exact r1.out _
    · exact r1
  · unfold wo
    rw [if_pos (hw.mp z), rd_wr]
theorem al_of {cs : List Nat} {P : OM → Option ((Nat × Int32) × OM)} {S : Int → Int} {Y : Nat} (h : AK cs P S Y) : AL (fun o => bn (P o) (fun q o1 => grd (okc cs q.1) (some (wc q.1, wo q o1)))) S Y := by
  obtain ⟨c, r, S', h1, h2, h3, h4⟩ := h
  exact ⟨wc c, r, S', h2, fun z => h4 (fun q => z ((wc_0 h3).mpr q)), al_run h3 h1⟩
theorem bn_id {α β : Type} (x : Option (α × β)) : bn x (fun r o => some (r, o)) = x := by
  cases x with
  | none => rfl
  | some q => rfl
section
variable {S : Int → Int} {g Y : Nat}
theorem al_changes (hB : SB S Y) (hY : Y ≤ 700000) (hI : INV S) (h a b : Int32) : AL (fun o => F_L_changes o h a b) S Y := by
  have ra : R32 a.toInt := ⟨toI_lo a, toI_hi a⟩
  have rb : R32 b.toInt := ⟨toI_lo b, toI_hi b⟩
  rw [← I_toI a, ← I_toI b]
  unfold F_L_changes Fc_L_changes
  by_cases h0 : h = 0
  · simp only [if_pos h0]
    exact al_of (k_breakOne hB hY hI ra)
  · by_cases h1 : h = 1
    · simp only [if_neg h0, if_pos h1]
      exact al_of (k_bath hB hY hI ra rb)
    · by_cases h2 : h = 2
      · simp only [if_neg h0, if_neg h1, if_pos h2]
        exact al_of (k_pass hB hY hI ra)
      · by_cases h3 : h = 3
        · simp only [if_neg h0, if_neg h1, if_neg h2, if_pos h3]
          exact al_of (k_set hB hY hI ra rb)
        · by_cases h4 : h = 4
          · simp only [if_neg h0, if_neg h1, if_neg h2, if_neg h3, if_pos h4]
            exact al_of (k_measure hB hY hI ra rb)
          · by_cases h5 : h = 5
            · simp only [if_neg h0, if_neg h1, if_neg h2, if_neg h3, if_neg h4, if_pos h5]
              exact al_of (k_forget hB hY hI ra rb)
            · simp only [if_neg h0, if_neg h1, if_neg h2, if_neg h3, if_neg h4, if_neg h5]
              exact al_of (k_paper hB hY hI ra)
theorem al_makes (hB : SB S Y) (hY : Y ≤ 700000) (hI : INV S) (a b c : Int32) : AL (fun o => F_L_makes o a b c) S Y := by
  have ra : R32 a.toInt := ⟨toI_lo a, toI_hi a⟩
  have rb : R32 b.toInt := ⟨toI_lo b, toI_hi b⟩
  have rc : R32 c.toInt := ⟨toI_lo c, toI_hi c⟩
  rw [← I_toI a, ← I_toI b, ← I_toI c]
  unfold F_L_makes Fc_L_makes
  exact al_of (k_make hB hY hI ra rb rc)
def actG (r1 s4 kx x : Int32) (o : OM) : Option (Int32 × OM) := if ((4 : Int32)) ≤ r1 then (if ((16 : Int32)) ≤ r1 then (if ((20 : Int32)) ≤ r1 then (if ((25 : Int32)) ≤ r1 then (if ((28 : Int32)) ≤ r1 then (bd (fun (o_10 : OM) (s_9 : Int32) => some (s_9, o_10)) (fun k435 => if r1 = ((28 : Int32)) then (bd (fun (s_18 : Int32) => bq (F_L_low o x s_18) (fun r_19 => bd (fun (s_20 : Int32) => bq (F_L_low o (x >>> (((3 : Int32)) &&& 31)) s_20) (fun r_21 => bn (F_L_changes o ((3 : Int32)) r_19 r_21) (fun r_22 o_23 => k435 o_23 r_22))) (fun k351 => if s4 = 0 then (k351 ((120 : Int32))) else (k351 ((21 : Int32)))))) (fun k332 => if s4 = 0 then (k332 ((8 : Int32))) else (k332 ((7 : Int32))))) else (bd (fun (_ : Unit) => bd (fun (s_11 : Int32) => bn (F_L_changes o ((5 : Int32)) kx s_11) (fun r_12 o_13 => k435 o_13 r_12)) (fun k431 => if ((x >>> (((5 : Int32)) &&& 31)) &&& ((1 : Int32))) = 0 then (k431 ((0 : Int32))) else (bd (fun (s_14 : Int32) => bq (F_L_low o (x >>> (((6 : Int32)) &&& 31)) s_14) (fun r_15 => k431 (r_15 - ((400 : Int32))))) (fun k424 => if s4 = 0 then (k424 ((2100 : Int32))) else (k424 ((1901 : Int32))))))) (fun k388 => if r1 = ((29 : Int32)) then (if ((x >>> (((4 : Int32)) &&& 31)) &&& ((1 : Int32))) = 0 then (bn (F_L_changes o ((0 : Int32)) kx ((0 : Int32))) (fun r_16 o_17 => k435 o_17 r_16)) else (k388 ())) else (k388 ()))))) else (bd (fun (s_24 : Int32) => bq (F_L_low o x s_24) (fun r_25 => bn (F_L_changes o ((2 : Int32)) r_25 ((0 : Int32))) (fun r_26 o_27 => some (r_26, o_27)))) (fun k301 => if s4 = 0 then (k301 ((25 : Int32))) else (k301 ((4 : Int32)))))) else (bd (fun (s_28 : Int32) => bq (F_L_low o x s_28) (fun r_29 => bd (fun (s_30 : Int32) => bn (F_L_changes o ((1 : Int32)) r_29 s_30) (fun r_31 o_32 => some (r_31, o_32))) (fun k275 => if ((x >>> (((3 : Int32)) &&& 31)) &&& ((3 : Int32))) = 0 then (k275 ((0 : Int32))) else (if ((x >>> (((3 : Int32)) &&& 31)) &&& ((3 : Int32))) = ((1 : Int32)) then (k275 ((1000 : Int32))) else (bd (fun (s_33 : Int32) => bq (F_L_low o (x >>> (((5 : Int32)) &&& 31)) s_33) (fun r_34 => k275 (r_34 - ((400 : Int32))))) (fun k268 => if s4 = 0 then (k268 ((2100 : Int32))) else (k268 ((1901 : Int32))))))))) (fun k218 => if s4 = 0 then (k218 ((5 : Int32))) else (k218 ((4 : Int32)))))) else (bn (F_L_changes o ((6 : Int32)) kx ((0 : Int32))) (fun r_35 o_36 => some (r_35, o_36)))) else (bd (fun (s_37 : Int32) => bq (F_L_low o (x >>> (((3 : Int32)) &&& 31)) s_37) (fun r_38 => bn (F_L_changes o ((4 : Int32)) kx r_38) (fun r_39 o_40 => some (r_39, o_40)))) (fun k173 => if s4 = 0 then (k173 ((5 : Int32))) else (k173 ((4 : Int32)))))) else (bd (fun (s_41 : Int32) => bq (F_L_low o x s_41) (fun r_42 => bd (fun (s_43 : Int32) => bq (F_L_low o (x >>> (((3 : Int32)) &&& 31)) s_43) (fun r_44 => bd (fun (s_45 : Int32) => bq (F_L_low o (x >>> (((6 : Int32)) &&& 31)) s_45) (fun r_46 => bn (F_L_makes o (r_42 - ((50 : Int32))) (r_44 - ((50 : Int32))) r_46) (fun r_47 o_48 => some (r_47, o_48)))) (fun k141 => if s4 = 0 then (k141 ((5 : Int32))) else (if ((x >>> (((9 : Int32)) &&& 31)) &&& ((1 : Int32))) = 0 then (k141 ((4 : Int32))) else (k141 ((1 : Int32))))))) (fun k106 => if s4 = 0 then (k106 ((110 : Int32))) else (k106 ((101 : Int32)))))) (fun k84 => if s4 = 0 then (k84 ((110 : Int32))) else (k84 ((101 : Int32)))))
def actH (r1 s4 x : Int32) (o : OM) : Option (Int32 × OM) := b0 (F_X5_count o ((1 : Int32))) (fun r_5 o_6 => bd (fun (s_7 : Int32) => bq (F_L_low o_6 x s_7) (fun kx => actG r1 s4 kx x o_6)) (fun k59 => bd (fun (_ : Unit) => k59 (r_5 + ((1 : Int32)))) (fun k55 => if s4 = 0 then (k55 ()) else (if r_5 ≤ 0 then (k55 ()) else (k59 r_5)))))
theorem al_act (hB : SB S Y) (hY : Y ≤ 700000) (hI : INV S) (r1 s4 kx x : Int32) : AL (fun o => actG r1 s4 kx x o) S Y := by
  have hc := al_changes hB hY hI
  have hm := al_makes hB hY hI
  unfold actG
  by_cases h4 : 4 ≤ r1
  · simp only [if_pos h4]
    by_cases h16 : 16 ≤ r1
    · simp only [if_pos h16]
      by_cases h20 : 20 ≤ r1
      · simp only [if_pos h20]
        by_cases h25 : 25 ≤ r1
        · simp only [if_pos h25]
          by_cases h28 : 28 ≤ r1
          · simp only [if_pos h28]
            by_cases e28 : r1 = 28
            · simp only [if_pos e28]
              by_cases hs : s4 = 0
              · simp only [if_pos hs, bd_e, low_8, low_120, low_21, low_7, low_2100, low_1901, low_25, low_4, low_5, low_110, low_101, low_1, bq_e, bn_id]
                exact hc _ _ _
              · simp only [if_neg hs, bd_e, low_8, low_120, low_21, low_7, low_2100, low_1901, low_25, low_4, low_5, low_110, low_101, low_1, bq_e, bn_id]
                exact hc _ _ _
            · simp only [if_neg e28]
              have tail : AL (fun o => bd (fun (s_11 : Int32) => bn (F_L_changes o ((5 : Int32)) kx s_11) (fun r_12 o_13 => some (r_12, o_13))) (fun k431 => if ((x >>> (((5 : Int32)) &&& 31)) &&& ((1 : Int32))) = 0 then (k431 ((0 : Int32))) else (bd (fun (s_14 : Int32) => bq (F_L_low o (x >>> (((6 : Int32)) &&& 31)) s_14) (fun r_15 => k431 (r_15 - ((400 : Int32))))) (fun k424 => if s4 = 0 then (k424 ((2100 : Int32))) else (k424 ((1901 : Int32))))))) S Y := by
                by_cases h5 : ((x >>> (((5 : Int32)) &&& 31)) &&& ((1 : Int32))) = 0
                · simp only [if_pos h5, bd_e, bn_id]
                  exact hc _ _ _
                · simp only [if_neg h5]
                  by_cases hs : s4 = 0
                  · simp only [if_pos hs, bd_e, low_8, low_120, low_21, low_7, low_2100, low_1901, low_25, low_4, low_5, low_110, low_101, low_1, bq_e, bn_id]
                    exact hc _ _ _
                  · simp only [if_neg hs, bd_e, low_8, low_120, low_21, low_7, low_2100, low_1901, low_25, low_4, low_5, low_110, low_101, low_1, bq_e, bn_id]
                    exact hc _ _ _
              by_cases e29 : r1 = 29
              · simp only [if_pos e29]
                by_cases hb : ((x >>> (((4 : Int32)) &&& 31)) &&& ((1 : Int32))) = 0
                · simp only [if_pos hb, bd_e, bn_id]
                  exact hc _ _ _
                · simp only [if_neg hb]
                  exact tail
              · simp only [if_neg e29]
                exact tail
          · simp only [if_neg h28]
            by_cases hs : s4 = 0
            · simp only [if_pos hs, bd_e, low_8, low_120, low_21, low_7, low_2100, low_1901, low_25, low_4, low_5, low_110, low_101, low_1, bq_e, bn_id]
              exact hc _ _ _
            · simp only [if_neg hs, bd_e, low_8, low_120, low_21, low_7, low_2100, low_1901, low_25, low_4, low_5, low_110, low_101, low_1, bq_e, bn_id]
              exact hc _ _ _
        · simp only [if_neg h25]
          by_cases hb : ((x >>> (((3 : Int32)) &&& 31)) &&& ((3 : Int32))) = 0
          · simp only [if_pos hb]
            by_cases hs : s4 = 0
            · simp only [if_pos hs, bd_e, low_8, low_120, low_21, low_7, low_2100, low_1901, low_25, low_4, low_5, low_110, low_101, low_1, bq_e, bn_id]
              exact hc _ _ _
            · simp only [if_neg hs, bd_e, low_8, low_120, low_21, low_7, low_2100, low_1901, low_25, low_4, low_5, low_110, low_101, low_1, bq_e, bn_id]
              exact hc _ _ _
          · simp only [if_neg hb]
            by_cases hb1 : ((x >>> (((3 : Int32)) &&& 31)) &&& ((3 : Int32))) = ((1 : Int32))
            · simp only [if_pos hb1]
              by_cases hs : s4 = 0
              · simp only [if_pos hs, bd_e, low_8, low_120, low_21, low_7, low_2100, low_1901, low_25, low_4, low_5, low_110, low_101, low_1, bq_e, bn_id]
                exact hc _ _ _
              · simp only [if_neg hs, bd_e, low_8, low_120, low_21, low_7, low_2100, low_1901, low_25, low_4, low_5, low_110, low_101, low_1, bq_e, bn_id]
                exact hc _ _ _
            · simp only [if_neg hb1]
              by_cases hs : s4 = 0
              · simp only [if_pos hs, bd_e, low_8, low_120, low_21, low_7, low_2100, low_1901, low_25, low_4, low_5, low_110, low_101, low_1, bq_e, bn_id]
                exact hc _ _ _
              · simp only [if_neg hs, bd_e, low_8, low_120, low_21, low_7, low_2100, low_1901, low_25, low_4, low_5, low_110, low_101, low_1, bq_e, bn_id]
                exact hc _ _ _
      · simp only [if_neg h20, bn_id]
        exact hc _ _ _
    · simp only [if_neg h16]
      by_cases hs : s4 = 0
      · simp only [if_pos hs, bd_e, low_8, low_120, low_21, low_7, low_2100, low_1901, low_25, low_4, low_5, low_110, low_101, low_1, bq_e, bn_id]
        exact hc _ _ _
      · simp only [if_neg hs, bd_e, low_8, low_120, low_21, low_7, low_2100, low_1901, low_25, low_4, low_5, low_110, low_101, low_1, bq_e, bn_id]
        exact hc _ _ _
  · simp only [if_neg h4]
    by_cases hs : s4 = 0
    · simp only [if_pos hs, bd_e, low_8, low_120, low_21, low_7, low_2100, low_1901, low_25, low_4, low_5, low_110, low_101, low_1, bq_e, bn_id]
      exact hm _ _ _
    · by_cases hb : ((x >>> (((9 : Int32)) &&& 31)) &&& ((1 : Int32))) = 0
      · simp only [if_neg hs, if_pos hb, bd_e, low_8, low_120, low_21, low_7, low_2100, low_1901, low_25, low_4, low_5, low_110, low_101, low_1, bq_e, bn_id]
        exact hm _ _ _
      · simp only [if_neg hs, if_neg hb, bd_e, low_8, low_120, low_21, low_7, low_2100, low_1901, low_25, low_4, low_5, low_110, low_101, low_1, bq_e, bn_id]
        exact hm _ _ _
theorem x_size {o : OM} {q : Qt} (hP : RP o S q) (hb : RB S q Y) (hY : Y ≤ 1000000) : F_X5_count o 1 = some ((0, I (gm S : Int)), o) := by
  obtain ⟨b, h3⟩ := hP.2.2.1
  have h := x_count hP.1 hb.1 hY h3.2.2.1 (w := 1) (by omega) (by omega)
  have e : cts S q.1.1 1 = (gm S : Int) := by
    unfold cts
    rw [if_neg (by omega), if_pos rfl]
    exact hb.1.m.1
  rw [e] at h
  exact h
theorem act_e {o : OM} {q : Qt} (hP : RP o S q) (hb : RB S q Y) (hY : Y ≤ 1000000) (v : Int32) : F_L_act o v = actG (lw v 32) (if lw (v >>> (22 &&& 31)) 7 ≤ 0 then 0 else 1) (lw (v >>> (5 &&& 31)) (if ¬ lw (v >>> (22 &&& 31)) 7 ≤ 0 ∧ ¬ I (gm S : Int) ≤ 0 then I (gm S : Int) else I (gm S : Int) + 1)) (v >>> (5 &&& 31)) o := by
  have hx := x_size hP hb hY
  have hm := hb.1.m
  have n1 : ¬ I (gm S : Int) + 1 = 0 := by
    rw [show (1 : Int32) = I 1 from rfl, I_add, show (0 : Int32) = I 0 from rfl]
    intro z
    have := I_inj (by omega) (by omega) (by omega) (by omega) z
    omega
  have n2 : ¬ I (gm S : Int) ≤ 0 → ¬ I (gm S : Int) = 0 := fun h z => h (by rw [z]; decide)
  have e0 : F_L_act o v = bq (F_L_low o v ((32 : Int32))) (fun r_1 => bd (v >>> (((5 : Int32)) &&& 31)) (fun v4_2 : Int32 => bq (F_L_low o (v >>> (((22 : Int32)) &&& 31)) ((7 : Int32))) (fun r_3 => bd (fun (s_4 : Int32) => actH r_1 s_4 v4_2 o) (fun k29 => if r_3 ≤ 0 then (k29 ((0 : Int32))) else (k29 ((1 : Int32))))))) := rfl
  rw [e0, low_32, bq_e, bd_e, low_7, bq_e, bd_e]
  have e1 : ∀ r1 s4 x : Int32, actH r1 s4 x o = bd (fun (s_7 : Int32) => bq (F_L_low o x s_7) (fun kx => actG r1 s4 kx x o)) (fun k59 => bd (fun (_ : Unit) => k59 (I (gm S : Int) + ((1 : Int32)))) (fun k55 => if s4 = 0 then (k55 ()) else (if I (gm S : Int) ≤ 0 then (k55 ()) else (k59 (I (gm S : Int)))))) := fun r1 s4 x => by
    unfold actH
    rw [hx]
    unfold b0
    rw [bn_e]
    dsimp only
    rw [decide_eq_true rfl, grd_e]
  by_cases c1 : lw (v >>> (22 &&& 31)) 7 ≤ 0
  · rw [if_pos c1, if_pos c1, if_neg (fun z : ¬ lw (v >>> (22 &&& 31)) 7 ≤ 0 ∧ ¬ I (gm S : Int) ≤ 0 => z.1 c1)]
    dsimp only
    rw [e1, bd_e, bd_e, if_pos rfl]
    dsimp only
    rw [low_e _ _ n1, bq_e]
  · have z1 : ¬ ((1 : Int32) = 0) := by decide
    rw [if_neg c1, if_neg c1]
    dsimp only
    rw [e1, bd_e, bd_e, if_neg z1]
    dsimp only
    by_cases c2 : I (gm S : Int) ≤ 0
    · rw [if_pos c2, if_neg (fun z : ¬ lw (v >>> (22 &&& 31)) 7 ≤ 0 ∧ ¬ I (gm S : Int) ≤ 0 => z.2 c2), low_e _ _ n1, bq_e]
    · rw [if_neg c2, if_pos (And.intro c1 c2), low_e _ _ (n2 c2), bq_e]
/-- an act: one outcome for every object that holds the row -/
theorem al_A (hB : SB S Y) (hY : Y ≤ 700000) (hI : INV S) (v : Int32) : AL (fun o => F_L_act o v) S Y :=
  al_cong (fun o q hP hb => act_e hP hb (by omega) v) (al_act hB hY hI _ _ _ _)
end
