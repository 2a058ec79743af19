/-! what the law asks of readings -/
section
variable {o : OM} {S : Int → Int} {Y : Nat} {q : Qt} {g h : Nat}
theorem worst_loop (hP : RP o S q) (hB : SB S Y) (hg : g < gm S) (hh : h < gm S) {b : Nat} (hb : Bst (ovs S g h) 20 b) (kk : OM → Int32 → Option (Int32 × OM)) : ∀ (fuel i : Nat), 20 < i + fuel → i ≤ 20 →
    LL_areReadingsSo_280 kk (I 0) (I (g : Int)) (I (h : Int)) (I (-400 + 100 * (b : Int) + 10000)) fuel o (I 1) (I (-400 + 100 * (i : Int))) = kk o (I 1) := by
  have hm := hB.m
  obtain ⟨b1, b2, b3⟩ := hb
  intro fuel
  induction fuel with
  | zero => intro i h1 h2; omega
  | succ fuel ih =>
    intro i h1 h2
    rw [LL_areReadingsSo_280.eq_2]
    try dsimp only
    rw [show (1501 : Int32) = I 1501 from rfl]
    by_cases c : i = 20
    · rw [if_pos (by rw [I_le (by omega) (by omega) (by omega) (by omega)]; omega)]
    · have nx := ih (i + 1) (by omega) (by omega)
      have r1 := ovl_rg (hB.g hg) (hB.g hh) (z := -400 + 100 * (b : Int)) (by omega) (by omega)
      have r2 := ovl_rg (hB.g hg) (hB.g hh) (z := -400 + 100 * (i : Int)) (by omega) (by omega)
      have o1 := x_overlap hP.1 hB hg hh (z := -400 + 100 * (b : Int)) (by omega) (by omega)
      have o2 := x_overlap hP.1 hB hg hh (z := -400 + 100 * (i : Int)) (by omega) (by omega)
      have le : ovl S g h (-400 + 100 * (i : Int)) ≤ ovl S g h (-400 + 100 * (b : Int)) := b2 i (by omega)
      have lt : i < b → ovl S g h (-400 + 100 * (i : Int)) < ovl S g h (-400 + 100 * (b : Int)) := fun hib => b3 i hib
      rw [if_neg (by rw [I_le (by omega) (by omega) (by omega) (by omega)]; omega), show (10000 : Int32) = I 10000 from rfl, show (100 : Int32) = I 100 from rfl, show (0 : Int32) = I 0 from rfl, show (1 : Int32) = I 1 from rfl, if_pos rfl, I_sub, show -400 + 100 * (b : Int) + 10000 - 10000 = -400 + 100 * (b : Int) from by omega, b0_e o1, b0_e o2, bd_e, I_sub]
      refine bd_k (fun k349 => k349 (I 1) = kk o (I 1)) ?_ (fun k349 hk => ?_)
      · try dsimp only
        rw [bd_e, I_add, show -400 + 100 * (i : Int) + 100 = -400 + 100 * ((i + 1 : Nat) : Int) from by omega]
        exact nx
      · rw [bd_e, if_neg (show ¬ I 1 = I 0 by decide), if_neg (by rw [I_lt (by omega) (by omega) (by omega) (by omega)]; omega), bd_e]
        by_cases p : 0 < ovl S g h (-400 + 100 * (b : Int)) - ovl S g h (-400 + 100 * (i : Int))
        · rw [if_pos (by rw [I_lt (by omega) (by omega) (by omega) (by omega)]; exact p)]
          exact hk
        · rw [if_neg (by rw [I_lt (by omega) (by omega) (by omega) (by omega)]; exact p), I_add, if_neg (by rw [I_lt (by omega) (by omega) (by omega) (by omega)]; omega)]
          exact hk
theorem readings_e (hP : RP o S q) (hB : SB S Y) (hI : INV S) (hY : Y ≤ 700000) (hg : g < gm S) (v2 : Int32) : F_L_areReadingsSo o (I (g : Int)) v2 = some (I 1, o) := by
  have hm := hB.m
  have hFU : 300 < FU := by unfold FU; omega
  have hG := hB.g hg
  have hp := hG.p
  have hs := hG.s
  have hn := hp.1
  have hr := hI.1 g hg
  have hrr : ∀ k, k < gn S g → -999 ≤ pr S g k ∧ pr S g k ≤ 1999 := fun k hk => (hr.2.2.2 k hk).1
  obtain ⟨t1, a1, a2, a3⟩ := lw_rg v2 (m := 2900) (by omega) (by omega)
  obtain ⟨t2, c1, c2, c3⟩ := lw_rg (v2 >>> (I 4 &&& 31)) (m := 90) (by omega) (by omega)
  obtain ⟨t3, d1, d2, d3⟩ := lw_rg (v2 >>> (I 3 &&& 31)) (m := 1901) (by omega) (by omega)
  obtain ⟨t4, e1, e2, e3⟩ := lw_rg (v2 >>> (I 6 &&& 31)) (m := (gm S : Int)) (by omega) (by omega)
  obtain ⟨h, rfl⟩ : ∃ h : Nat, t4 = (h : Int) := ⟨t4.toNat, by omega⟩
  have hh : h < gm S := by omega
  have hnh := (hB.g hh).p.1
  have x0 := fun w hw => x_corrected hP.1 hB hg (x := t1 - 999) (by omega) (by omega) (w := w) hw
  have x1 := x_corrected hP.1 hB hg (x := t1 - 999 + 1 + t2) (by omega) (by omega) (w := 1) (Or.inr rfl)
  have n := x_cnt hP hB (by omega) (w := 1) (by omega) (by omega)
  rw [cts_1 hB] at n
  have tg := x_th hP.1 hB (by omega) hg 3 (by omega)
  have th := x_th hP.1 hB (by omega) hh 3 (by omega)
  rw [show ((3 : Nat) : Int) = 3 from rfl, ofg_3] at tg th
  have xw := x_worst hP.1 hB hg hh
  have wr := wst_rg S g h
  have o1 := x_overlap hP.1 hB hg hh (z := t3 - 400) (by omega) (by omega)
  have o2 := x_overlap hP.1 hB hh hg (z := t3 - 400) (by omega) (by omega)
  have o3 := x_overlap hP.1 hB hg hg (z := t3 - 400) (by omega) (by omega)
  have r1 := ovl_rg hG (hB.g hh) (z := t3 - 400) (by omega) (by omega)
  rw [ovl_sym S h g] at o2
  rw [ovl_own] at o3
  have cle : cor S g (t1 - 999) ≤ cor S g (t1 - 999 + 1 + t2) := by
    unfold cor
    by_cases c : 2 ≤ gn S g
    · rw [if_pos c, if_pos c]
      have := corf_mono hp c hs (x := t1 - 999) (x' := t1 - 999 + 1 + t2) (by omega)
      omega
    · rw [if_neg c, if_neg c]
      exact Int.le_refl _
  have crg : (2 ≤ gn S g → 1 ≤ cor S g (t1 - 999)) ∧ (¬ 2 ≤ gn S g → cor S g (t1 - 999) = -1) ∧ -1 ≤ cor S g (t1 - 999) ∧ cor S g (t1 - 999) ≤ 20000000 ∧ -1 ≤ cor S g (t1 - 999 + 1 + t2) ∧ cor S g (t1 - 999 + 1 + t2) ≤ 20000000 := by
    unfold cor
    by_cases c : 2 ≤ gn S g
    · rw [if_pos c, if_pos c]
      have q1 := corf_in hp c hs hrr (x := t1 - 999) (by omega)
      have q2 := corf_in hp c hs hrr (x := t1 - 999 + 1 + t2) (by omega)
      omega
    · rw [if_neg c, if_neg c]
      omega
  obtain ⟨g1, g2, g3, g4, g5, g6⟩ := crg
  have rm := rdg_mono hG (t3 - 400)
  have nzg : ¬ I (gm S : Int) = (0 : Int32) := by
    rw [show (0 : Int32) = I 0 from rfl, I_eq (by omega) (by omega) (by omega) (by omega)]
    omega
  have nz2 : decide (¬ I (gm S : Int) = I 0) = true := by
    apply decide_eq_true
    rw [I_eq (by omega) (by omega) (by omega) (by omega)]
    omega
  unfold F_L_areReadingsSo
  generalize FU = F at hFU ⊢
  rw [show (-1 : Int32) = I (-1) from rfl, show (-400 : Int32) = I (-400) from rfl, show (0 : Int32) = I 0 from rfl, show (1 : Int32) = I 1 from rfl, show (2 : Int32) = I 2 from rfl, show (3 : Int32) = I 3 from rfl, show (4 : Int32) = I 4 from rfl, show (6 : Int32) = I 6 from rfl, show (2900 : Int32) = I 2900 from rfl, show (999 : Int32) = I 999 from rfl, show (90 : Int32) = I 90 from rfl, show (1901 : Int32) = I 1901 from rfl, show (400 : Int32) = I 400 from rfl, show (1500 : Int32) = I 1500 from rfl]
  rw [low_e o v2 (b := I 2900) (by decide), a3, bq_e, I_sub, bd_e, b0_e (x0 0 (Or.inl rfl)), low_e o _ (b := I 90) (by decide), c3, bq_e, I_add, I_add, b0_e x1, low_e o _ (b := I 1901) (by decide), d3, bq_e, I_sub, bd_e, b0_e n, low_e o _ (b := I (gm S : Int)) nzg, e3, bq_e, b0_e xw, b0_e tg]
  refine bd_k (fun k105 => k105 o (I (if gn S g < 2 ∨ gn S h < 2 then 1 else 0)) = some (I 1, o)) ?_ (fun k105 hk => ?_)
  · try dsimp only
    rw [b0_e (x0 1 (Or.inr rfl))]
    refine bd_k (fun k273 => k273 o (I 1) = some (I 1, o)) ?_ (fun k273 hk => ?_)
    · try dsimp only
      refine bd_k (fun k357 => k357 o (I 1) = some (I 1, o)) ?_ (fun k357 hk => ?_)
      · try dsimp only
        rw [isZ1, grd_e]
      · by_cases c : gn S g < 2 ∨ gn S h < 2
        · rw [if_pos c]
          obtain ⟨F', rfl⟩ : ∃ F', F = F' + 1 := ⟨F - 1, by omega⟩
          rw [LL_areReadingsSo_280.eq_2]
          try dsimp only
          rw [show (1501 : Int32) = I 1501 from rfl, if_neg (by rw [I_le (by omega) (by omega) (by omega) (by omega)]; omega), if_neg (show ¬ I 1 = (0 : Int32) by decide)]
          exact hk
        · rw [if_neg c]
          obtain ⟨b, hb1, hb2⟩ := wst_y S c
          rw [hb2]
          exact (worst_loop hP hB hg hh hb1 k357 F 0 (by omega) (by omega)).trans hk
    · rw [bd_e, if_pos rfl, if_neg (by rw [I_lt (by omega) (by omega) (by omega) (by omega)]; omega), b0_e tg]
      refine bd_k (fun k141 => k141 (I (if 2 ≤ gn S g then 0 else 1)) = some (I 1, o)) ?_ (fun k141 hk2 => ?_)
      · try dsimp only
        refine bd_k (fun k152 => k152 (I (if 2 ≤ gn S g then 0 else 1)) = some (I 1, o)) ?_ (fun k152 hk2 => ?_)
        · try dsimp only
          rw [if_pos rfl, b0_e o1, b0_e o2, if_pos rfl, b0_e o1]
          refine bd_k (fun k194 => k194 (I (if gn S g < 2 ∨ gn S h < 2 then 1 else 0)) = some (I 1, o)) ?_ (fun k194 hk2 => ?_)
          · try dsimp only
            rw [if_pos rfl]
            refine bd_k (fun k210 => k210 (I (if gn S g < 2 ∨ gn S h < 2 then 1 else 0)) = some (I 1, o)) ?_ (fun k210 hk2 => ?_)
            · try dsimp only
              rw [if_pos rfl, b0_e o3, b0_e tg]
              refine bd_k (fun k238 => k238 (I (if 2 ≤ gn S g then 0 else -1)) = some (I 1, o)) ?_ (fun k238 hk2 => ?_)
              · try dsimp only
                rw [if_pos rfl, bd_e]
                by_cases c : t3 - 400 = 1500
                · rw [if_pos (by rw [c])]
                  exact hk
                · have y1 := x_reads hP.1 hB hg (z := t3 - 400) (by omega) (by omega)
                  have y2 := x_reads hP.1 hB hg (z := t3 - 400 + 1) (by omega) (by omega)
                  have z1 := (rdg_rg hG (z := t3 - 400) (by omega) (by omega)).2
                  have z2 := (rdg_rg hG (z := t3 - 400 + 1) (by omega) (by omega)).2
                  rw [if_neg (by rw [I_eq (by omega) (by omega) (by omega) (by omega)]; exact c), b0_e y1, I_add, b0_e y2, if_neg (by rw [I_lt (by omega) (by omega) (by omega) (by omega)]; omega)]
                  exact hk
              · by_cases c : 2 ≤ gn S g
                · rw [if_pos c] at hk2
                  rw [if_pos (by rw [I_le (by omega) (by omega) (by omega) (by omega)]; omega)]
                  exact hk2
                · rw [if_neg c] at hk2
                  rw [if_neg (by rw [I_le (by omega) (by omega) (by omega) (by omega)]; omega)]
                  exact hk2
            · by_cases c : gn S g < 2 ∨ gn S h < 2
              · rw [if_pos c] at hk2
                rw [if_pos (by rw [wst_n S c])]
                exact hk2
              · rw [if_neg c] at hk2
                obtain ⟨b, hb1, hb2⟩ := wst_y S c
                rw [if_neg (by rw [I_eq (by omega) (by omega) (by omega) (by omega)]; omega)]
                exact hk2
          · by_cases c : gn S g < 2 ∨ gn S h < 2
            · rw [if_pos c] at hk2
              rw [if_pos (by rw [ovl_none S _ c])]
              exact hk2
            · rw [if_neg c] at hk2
              have := ovl_nn S (t3 - 400) c
              rw [if_neg (by rw [I_eq (by omega) (by omega) (by omega) (by omega)]; omega)]
              exact hk2
        · by_cases c : 2 ≤ gn S g
          · rw [if_pos c] at hk2
            have := g1 c
            rw [if_neg (by rw [I_eq (by omega) (by omega) (by omega) (by omega)]; omega)]
            exact hk2
          · rw [if_neg c] at hk2
            rw [if_pos (by rw [g2 c])]
            exact hk2
      · by_cases c : 2 ≤ gn S g
        · rw [if_pos c] at hk2
          rw [if_pos (by rw [I_le (by omega) (by omega) (by omega) (by omega)]; omega)]
          exact hk2
        · rw [if_neg c] at hk2
          rw [if_neg (by rw [I_le (by omega) (by omega) (by omega) (by omega)]; omega)]
          exact hk2
  · rw [bd_e]
    by_cases c1 : gn S g < 2
    · rw [if_pos (Or.inl c1)] at hk
      rw [if_pos (by rw [I_lt (by omega) (by omega) (by omega) (by omega)]; omega)]
      exact hk
    · rw [if_neg (by rw [I_lt (by omega) (by omega) (by omega) (by omega)]; omega), b0_e th]
      by_cases c2 : gn S h < 2
      · rw [if_pos (Or.inr c2)] at hk
        rw [if_neg (by rw [I_le (by omega) (by omega) (by omega) (by omega)]; omega)]
        exact hk
      · rw [if_neg (by omega)] at hk
        rw [if_pos (by rw [I_le (by omega) (by omega) (by omega) (by omega)]; omega)]
        exact hk
end
