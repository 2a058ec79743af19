/-! the points of one thermometer, place by place -/
theorem bd_k {κ β : Type} {k0 : κ} {K : κ → β} {z : β} (P : κ → Prop) (h1 : P k0) (h2 : ∀ k, P k → K k = z) : bd k0 K = z := h2 k0 h1
section
variable {o : OM} {S : Int → Int} {Y : Nat} {q : Qt} {g : Nat}
theorem x_pt (hP : RP o S q) (hB : SB S Y) (hg : g < gm S) {i : Nat} (hi : i < gn S g) :
    F_X5_point o (I (g : Int)) (I (i : Int)) (I 0) = some ((0, I (pr S g (oi (pr S g) (gn S g) i) + 10000)), o) ∧ F_X5_point o (I (g : Int)) (I (i : Int)) (I 1) = some ((0, I (pd S g (oi (pr S g) (gn S g) i) + 10000)), o) ∧
    F_X5_point o (I (g : Int)) (I (i : Int)) (I 2) = some ((0, I (py S g (oi (pr S g) (gn S g) i))), o) ∧ F_X5_point o (I (g : Int)) (I (i : Int)) (I 3) = some ((0, I (dep (pr S g) (oi (pr S g) (gn S g) i) : Int)), o) := by
  have hn := (hB.g hg).p.1
  have h := fun w h1 h2 => x_point hP.1 hB hg (p := (i : Int)) (by omega) (by omega) (w := w) h1 h2
  have e : ∀ w, ofp S g (i : Int) w = (let j := oi (pr S g) (gn S g) i; if w = 0 then pr S g j + 10000 else if w = 1 then pd S g j + 10000 else if w = 2 then py S g j else (dep (pr S g) j : Int)) := fun w => by
    unfold ofp
    rw [if_pos (by omega)]
    rfl
  have h0 := h 0 (by omega) (by omega)
  have h1 := h 1 (by omega) (by omega)
  have h2 := h 2 (by omega) (by omega)
  have h3 := h 3 (by omega) (by omega)
  rw [e] at h0 h1 h2 h3
  exact ⟨h0, h1, h2, h3⟩
theorem pts_loop (hP : RP o S q) (hB : SB S Y) (hI : INV S) (hY : Y ≤ 700000) (hg : g < gm S) (kk : OM → Int32 → Int32 → Int32 → Int32 → Int32 → Option (Int32 × OM)) : ∀ (fuel i : Nat), gn S g < i + fuel → i ≤ gn S g →
    LL_arePointsSo_49 kk (I (gn S g : Int)) (I (g : Int)) fuel o (I (mx (gap (pr S g) (pd S g) (gn S g)) i)) (I (mx (fun p => (dep (pr S g) (oi (pr S g) (gn S g) p) : Int)) i)) (I (rts (pr S g) (gn S g) i)) (fl (fun p => dep (pr S g) (oi (pr S g) (gn S g) p)) i) (I 1) (I (i : Int)) =
    kk o (I (mx (gap (pr S g) (pd S g) (gn S g)) (gn S g))) (I (mx (fun p => (dep (pr S g) (oi (pr S g) (gn S g) p) : Int)) (gn S g))) (I (rts (pr S g) (gn S g) (gn S g))) (fl (fun p => dep (pr S g) (oi (pr S g) (gn S g) p)) (gn S g)) (I 1) := by
  have hm := hB.m
  have hG := hB.g hg
  have hp := hG.p
  have hs := hG.s
  have hn := hp.1
  have hd := hp.2.1
  have hy := hB.2.2.1
  have y0 := x_cnt hP hB (by omega) (w := 0) (by omega) (by omega)
  rw [show cts S q.1.1 0 = S 233 from rfl] at y0
  intro fuel
  induction fuel with
  | zero => intro i h1 h2; omega
  | succ fuel ih =>
    intro i h1 h2
    rw [LL_arePointsSo_49.eq_2]
    try dsimp only
    by_cases c : i = gn S g
    · rw [if_pos (by rw [I_le (by omega) (by omega) (by omega) (by omega)]; omega), c]
    · have hi : i < gn S g := by omega
      have nx := ih (i + 1) (by omega) (by omega)
      obtain ⟨p0, p1, p2, p3⟩ := x_pt hP hB hg hi
      have sp := oi_sp hs (p := i) hi
      have ij := (hI.1 g hg).2.2.2 _ sp.1
      have bj := hp.2.2.2.2 _ sp.1
      have dj := dep_le (r := pr S g) (k := oi (pr S g) (gn S g) i)
      have dp := dep_pos (pr S g) (oi (pr S g) (gn S g) i)
      have xc := x_corrected hP.1 hB hg (x := pr S g (oi (pr S g) (gn S g) i)) ij.1.1 ij.1.2 (w := (i : Int) % 2) (by omega)
      have own : 2 ≤ gn S g → cor S g (pr S g (oi (pr S g) (gn S g) i)) = pd S g (oi (pr S g) (gn S g) i) + 10000000 := fun h => by
        unfold cor
        rw [if_pos h, corf_own hp h hs hi]
      have own' : ¬ 2 ≤ gn S g → cor S g (pr S g (oi (pr S g) (gn S g) i)) = -1 := fun h => by
        unfold cor
        rw [if_neg h]
      have mg : mx (gap (pr S g) (pd S g) (gn S g)) (i + 1) = max (mx (gap (pr S g) (pd S g) (gn S g)) i) (gap (pr S g) (pd S g) (gn S g) i) := rfl
      have md : mx (fun p => (dep (pr S g) (oi (pr S g) (gn S g) p) : Int)) (i + 1) = max (mx (fun p => (dep (pr S g) (oi (pr S g) (gn S g) p) : Int)) i) (dep (pr S g) (oi (pr S g) (gn S g) i) : Int) := rfl
      have mr : rts (pr S g) (gn S g) (i + 1) = rts (pr S g) (gn S g) i + if dep (pr S g) (oi (pr S g) (gn S g) i) = 1 then 1 else 0 := rfl
      have mf : fl (fun p => dep (pr S g) (oi (pr S g) (gn S g) p)) (i + 1) = fl (fun p => dep (pr S g) (oi (pr S g) (gn S g) p)) i ||| (I 1 <<< (I (dep (pr S g) (oi (pr S g) (gn S g) i) : Int) &&& 31)) := rfl
      have rd' := mx_rg (f := fun p => (dep (pr S g) (oi (pr S g) (gn S g) p) : Int)) (n := i) (M := 20) (by omega) (fun k hk => by
        have := (oi_sp hs (p := k) (by omega)).1
        have := dep_le (r := pr S g) (k := oi (pr S g) (gn S g) k)
        try dsimp only
        omega)
      have rg' := mx_rg (f := gap (pr S g) (pd S g) (gn S g)) (n := i) (M := 2000) (by omega) (fun k hk => (gap_rg hp hs (by omega)).2)
      obtain ⟨z, hz⟩ : ∃ z, z = mx (gap (pr S g) (pd S g) (gn S g)) (i + 1) := ⟨_, rfl⟩
      obtain ⟨zd, hzd⟩ : ∃ z, z = mx (fun p => (dep (pr S g) (oi (pr S g) (gn S g) p) : Int)) (i + 1) := ⟨_, rfl⟩
      obtain ⟨zr, hzr⟩ : ∃ z, z = rts (pr S g) (gn S g) (i + 1) := ⟨_, rfl⟩
      obtain ⟨zf, hzf⟩ : ∃ z, z = fl (fun p => dep (pr S g) (oi (pr S g) (gn S g) p)) (i + 1) := ⟨_, rfl⟩
      rw [← hz, ← hzd, ← hzr, ← hzf] at nx
      rw [← hz] at mg
      rw [← hzd] at md
      rw [← hzr] at mr
      rw [← hzf] at mf
      rw [if_neg (by rw [I_le (by omega) (by omega) (by omega) (by omega)]; omega)]
      rw [show (-1 : Int32) = I (-1) from rfl, show (10000 : Int32) = I 10000 from rfl, show (9990000 : Int32) = I 9990000 from rfl, show (0 : Int32) = I 0 from rfl, show (1 : Int32) = I 1 from rfl, show (2 : Int32) = I 2 from rfl, show (3 : Int32) = I 3 from rfl]
      rw [b0_e p1, b0_e p3]
      refine bd_k (fun k170 => k170 o (I z) (I 1) = LL_arePointsSo_49 kk (I (gn S g : Int)) (I (g : Int)) fuel o (I z) (I zd) (I zr) zf (I 1) (I ((i + 1 : Nat) : Int))) ?_ (fun k170 hk => ?_)
      · try dsimp only
        refine bd_k (fun k184 => k184 (I zd) = LL_arePointsSo_49 kk (I (gn S g : Int)) (I (g : Int)) fuel o (I z) (I zd) (I zr) zf (I 1) (I ((i + 1 : Nat) : Int))) ?_ (fun k184 hk => ?_)
        · try dsimp only
          refine bd_k (fun k199 => k199 (I (if dep (pr S g) (oi (pr S g) (gn S g) i) = 1 then 1 else 0)) = LL_arePointsSo_49 kk (I (gn S g : Int)) (I (g : Int)) fuel o (I z) (I zd) (I zr) zf (I 1) (I ((i + 1 : Nat) : Int))) ?_ (fun k199 hk => ?_)
          · try dsimp only
            rw [bd_e, I_add (rts (pr S g) (gn S g) i), ← mr, bd_e, ← mf]
            refine bd_k (fun k321 => k321 o (I 1) = LL_arePointsSo_49 kk (I (gn S g : Int)) (I (g : Int)) fuel o (I z) (I zd) (I zr) zf (I 1) (I ((i + 1 : Nat) : Int))) ?_ (fun k321 hk => ?_)
            · try dsimp only
              rw [bd_e, I_add]
              rfl
            · rw [bd_e, if_neg (show ¬ I 1 = I 0 by decide), if_neg (by rw [I_le (by omega) (by omega) (by omega) (by omega)]; omega), if_neg (by rw [I_lt (by omega) (by omega) (by omega) (by omega)]; omega), b0_e p2, b0_e y0, if_neg (by rw [I_lt (by omega) (by omega) (by omega) (by omega)]; omega), b0_e p2, if_neg (by rw [I_lt (by omega) (by omega) (by omega) (by omega)]; omega), bd_e]
              have n2 : decide (¬ I 2 = I 0) = true := by decide
              have e1 : pr S g (oi (pr S g) (gn S g) i) + 10000 - 10000 = pr S g (oi (pr S g) (gn S g) i) := by omega
              by_cases c2 : 2 ≤ gn S g
              · rw [if_pos (by rw [I_le (by omega) (by omega) (by omega) (by omega)]; omega), b0_e p0, n2, grd_e, I_sub, e1, md_e (by omega) (by omega) (by omega) (by omega), b0_e xc, own c2, I_add, if_pos (by congr 1; omega)]
                exact hk
              · rw [if_neg (by rw [I_le (by omega) (by omega) (by omega) (by omega)]; omega), b0_e p0, n2, grd_e, I_sub, e1, md_e (by omega) (by omega) (by omega) (by omega), b0_e xc, own' c2, if_pos rfl]
                exact hk
          · by_cases e : dep (pr S g) (oi (pr S g) (gn S g) i) = 1
            · rw [if_pos e] at hk
              rw [if_pos (by rw [e]; rfl)]
              exact hk
            · rw [if_neg e] at hk
              rw [if_neg (by rw [I_eq (by omega) (by omega) (by omega) (by omega)]; omega)]
              exact hk
        · by_cases e : (dep (pr S g) (oi (pr S g) (gn S g) i) : Int) ≤ mx (fun p => (dep (pr S g) (oi (pr S g) (gn S g) p) : Int)) i
          · rw [if_pos (by rw [I_le (by omega) (by omega) (by omega) (by omega)]; exact e)]
            rw [Int.max_eq_left e] at md
            rw [← md]
            exact hk
          · rw [if_neg (by rw [I_le (by omega) (by omega) (by omega) (by omega)]; exact e)]
            rw [Int.max_eq_right (by omega)] at md
            rw [← md]
            exact hk
      · by_cases c0 : i = 0
        · rw [if_pos (by rw [I_le (by omega) (by omega) (by omega) (by omega)]; omega)]
          have e : z = mx (gap (pr S g) (pd S g) (gn S g)) i := by
            rw [mg]
            apply Int.max_eq_left
            unfold gap
            rw [if_pos c0]
            exact mx_0 _ _
          rw [← e]
          exact hk.trans nx
        · obtain ⟨j, rfl⟩ : ∃ j, i = j + 1 := ⟨i - 1, by omega⟩
          obtain ⟨w0, w1, w2, w3⟩ := x_pt hP hB hg (i := j) (by omega)
          have spj := oi_sp hs (p := j) (by omega)
          have bjj := hp.2.2.2.2 _ spj.1
          have ijj := (hI.1 g hg).2.2.2 _ spj.1
          have djj := dep_le (r := pr S g) (k := oi (pr S g) (gn S g) j)
          have lt := (oi_lt hs (p := j) hi).1
          have ltd := (hp.2.2.2.1 _ _ spj.1 sp.1).mp lt
          have ne := dep_ne hd hs (p := j) hi
          have eg : gap (pr S g) (pd S g) (gn S g) (j + 1) = pd S g (oi (pr S g) (gn S g) (j + 1)) - pd S g (oi (pr S g) (gn S g) j) := by
            unfold gap
            rw [if_neg (by omega), Nat.add_sub_cancel]
          rw [if_neg (by rw [I_le (by omega) (by omega) (by omega) (by omega)]; omega), I_sub, show ((j + 1 : Nat) : Int) - 1 = (j : Int) from by omega, b0_e w1, b0_e w3]
          refine bd_k (fun k122 => k122 (I z) = LL_arePointsSo_49 kk (I (gn S g : Int)) (I (g : Int)) fuel o (I z) (I zd) (I zr) zf (I 1) (I ((j + 1 + 1 : Nat) : Int))) ?_ (fun k122 hk2 => ?_)
          · try dsimp only
            rw [bd_e, bd_e, if_neg (show ¬ I 1 = I 0 by decide), b0_e p0, b0_e w0, if_neg (by rw [I_le (by omega) (by omega) (by omega) (by omega)]; omega), if_neg (by rw [I_le (by omega) (by omega) (by omega) (by omega)]; omega), if_neg (by rw [I_eq (by omega) (by omega) (by omega) (by omega)]; omega)]
            exact hk
          · rw [I_sub, show pd S g (oi (pr S g) (gn S g) (j + 1)) + 10000 - (pd S g (oi (pr S g) (gn S g) j) + 10000) = gap (pr S g) (pd S g) (gn S g) (j + 1) from by rw [eg]; omega]
            have gr := gap_rg hp hs hi
            by_cases e : gap (pr S g) (pd S g) (gn S g) (j + 1) ≤ mx (gap (pr S g) (pd S g) (gn S g)) (j + 1)
            · rw [if_pos (by rw [I_le (by omega) (by omega) (by omega) (by omega)]; exact e)]
              rw [Int.max_eq_left e] at mg
              rw [← mg]
              exact hk2.trans nx
            · rw [if_neg (by rw [I_le (by omega) (by omega) (by omega) (by omega)]; exact e)]
              rw [Int.max_eq_right (by omega)] at mg
              rw [← mg]
              exact hk2.trans nx
theorem points_e (hP : RP o S q) (hB : SB S Y) (hI : INV S) (hY : Y ≤ 700000) (hg : g < gm S) : F_L_arePointsSo o (I (g : Int)) = some (I 1, o) := by
  have hm := hB.m
  have hFU : 300 < FU := by unfold FU; omega
  have hG := hB.g hg
  have hp := hG.p
  have hs := hG.s
  have hn := hp.1
  have hd := hp.2.1
  have t3 := x_th hP.1 hB (by omega) hg 3 (by omega)
  have t4 := x_th hP.1 hB (by omega) hg 4 (by omega)
  have t8 := x_th hP.1 hB (by omega) hg 8 (by omega)
  rw [show ((3 : Nat) : Int) = 3 from rfl, ofg_3] at t3
  rw [show ((4 : Nat) : Int) = 4 from rfl, ofg_4] at t4
  rw [show ((8 : Nat) : Int) = 8 from rfl, ofg_8] at t8
  have pn := x_point hP.1 hB hg (p := (gn S g : Int)) (by omega) (by omega) (w := 1) (by omega) (by omega)
  rw [show ofp S g (gn S g : Int) 1 = -1 from by unfold ofp; rw [if_neg (by omega)]] at pn
  have ed : mx (fun p => (dep (pr S g) (oi (pr S g) (gn S g) p) : Int)) (gn S g) = dpt S g := mx_oi hd hs (fun k => (dep (pr S g) k : Int))
  have eg : mx (gap (pr S g) (pd S g) (gn S g)) (gn S g) = wid S g := by
    unfold wid
    by_cases c : gn S g = 0
    · rw [c]
      rfl
    · rw [Nat.max_eq_left (by omega)]
  have er := rts_n hd hs
  have dr := dpt_rg hG
  have wr := wid_rg hG
  unfold F_L_arePointsSo
  generalize FU = F at hFU ⊢
  rw [show (-1 : Int32) = I (-1) from rfl, show (10 : Int32) = I 10 from rfl, show (0 : Int32) = I 0 from rfl, show (1 : Int32) = I 1 from rfl, show (2 : Int32) = I 2 from rfl, show (3 : Int32) = I 3 from rfl, show (4 : Int32) = I 4 from rfl, show (8 : Int32) = I 8 from rfl]
  rw [b0_e t3]
  refine bd_k (fun k44 => k44 o (I 1) = some (I 1, o)) ?_ (fun k44 hk => ?_)
  · try dsimp only
    refine bd_k (fun k329 => k329 o (I (wid S g)) (I (dpt S g)) (I (if 0 < gn S g then 1 else 0)) (fl (fun p => dep (pr S g) (oi (pr S g) (gn S g) p)) (gn S g)) (I 1) = some (I 1, o)) ?_ (fun k329 hk => ?_)
    · try dsimp only
      refine bd_k (fun k392 => k392 o (I 1) = some (I 1, o)) ?_ (fun k392 hk => ?_)
      · try dsimp only
        rw [isZ1, grd_e]
      · rw [bd_e, if_neg (show ¬ I 1 = I 0 by decide)]
        refine bd_k (fun k345 => k345 (I (if 0 < gn S g then 1 else 0)) = some (I 1, o)) ?_ (fun k345 hk2 => ?_)
        · try dsimp only
          rw [if_pos rfl, b0_e t4, if_pos rfl]
          refine bd_k (fun k376 => k376 () = some (I 1, o)) ?_ (fun k376 hk3 => ?_)
          · try dsimp only
            rw [b0_e t8, if_pos rfl]
            exact hk
          · by_cases c : gn S g = 0
            · rw [if_pos (show I (gn S g : Int) = I 0 by rw [c]; rfl)]
              exact hk3
            · rw [if_neg (by rw [I_eq (by omega) (by omega) (by omega) (by omega)]; omega)]
              obtain ⟨D, hD⟩ : ∃ D : Nat, dpt S g = (D : Int) := ⟨(dpt S g).toNat, by omega⟩
              have hle : ∀ p, p < gn S g → dep (pr S g) (oi (pr S g) (gn S g) p) ≤ D := fun p hp' => by
                have h := mx_ge (f := fun p => (dep (pr S g) (oi (pr S g) (gn S g) p) : Int)) (n := gn S g) (k := p) hp'
                rw [ed, hD] at h
                try dsimp only at h
                omega
              have hD10 : D < 11 := by
                have h : dpt S g ≤ 10 := (mx_rg (f := fun k => (dep (pr S g) k : Int)) (n := gn S g) (M := 10) (by omega) (fun k hk => by
                  have := dep_le (r := pr S g) (k := k)
                  try dsimp only
                  omega)).2
                omega
              have hall : ∀ t, 1 ≤ t → t ≤ D → ∃ p, p < gn S g ∧ dep (pr S g) (oi (pr S g) (gn S g) p) = t := fun t h1 h2 => by
                have hk : ∃ k, k < gn S g ∧ t ≤ dep (pr S g) k := by
                  apply Classical.byContradiction
                  intro hno
                  have h : dpt S g ≤ (t : Int) - 1 := (mx_rg (f := fun k => (dep (pr S g) k : Int)) (n := gn S g) (M := (t : Int) - 1) (by omega) (fun k hk => by
                    try dsimp only
                    have : ¬ t ≤ dep (pr S g) k := fun z => hno ⟨k, hk, z⟩
                    omega)).2
                  omega
                obtain ⟨k, k1, k2⟩ := hk
                obtain ⟨m, rfl⟩ : ∃ m, t = m + 1 := ⟨t - 1, by omega⟩
                obtain ⟨k', k3, k4⟩ := dep_all hd m k k1 k2
                exact ⟨rank (pr S g) (gn S g) k', rank_lt k3, by rw [oi_rank hd k3]; exact k4⟩
              have hf := fl_full (f := fun p => dep (pr S g) (oi (pr S g) (gn S g) p)) (n := gn S g) (m := D) (fun p hp' => ⟨dep_pos _ _, hle p hp'⟩) hD10 hall
              rw [if_pos (by
                rw [hf, I_add, hD]
                rfl)]
              exact hk3
        · by_cases c : gn S g = 0
          · rw [if_neg (show ¬ 0 < gn S g by omega)] at hk2
            rw [if_pos (by rw [I_le (by omega) (by omega) (by omega) (by omega)]; omega)]
            exact hk2
          · rw [if_pos (show 0 < gn S g by omega)] at hk2
            rw [if_neg (by rw [I_le (by omega) (by omega) (by omega) (by omega)]; omega)]
            exact hk2
    · have L := pts_loop hP hB hI hY hg k329 F 0 (by omega) (by omega)
      rw [ed, eg, er] at L
      exact L.trans hk
  · rw [bd_e, if_neg (by rw [I_lt (by omega) (by omega) (by omega) (by omega)]; omega), if_neg (by rw [I_lt (by omega) (by omega) (by omega) (by omega)]; omega), b0_e pn, if_pos rfl]
    exact hk
end
