/-! what the law asks of papers -/
section
variable {o : OM} {S : Int → Int} {Y : Nat} {q : Qt} {g : Nat}
theorem cts_4 (S : Int → Int) (m : Nat) : cts S m 4 = S 234 := rfl
theorem papers_e (hP : RP o S q) (hb : RB S q Y) (hI : INV S) (hY : Y ≤ 690000) (hg : g < gm S) : Fin1 S (Y + 3600) (F_L_arePapersSo o (I (g : Int))) := by
  have hB := hb.1
  have hm := hB.m
  have q4 := hB.2.2.2.1
  have q3 := hB.2.2.1
  have hG := hB.g hg
  obtain ⟨-, -, hs, -⟩ := hI.1 g hg
  obtain ⟨f1, f2, f3⟩ := ref_of S g
  have v01 := val_01 S g
  have vy : val S g = 1 → ¬ S (38 * (g : Int) + 5) = -1 ∧ ¬ S 241 < snc S g 0 := fun h => by
    rw [val_snc] at h
    by_cases c : ¬ S (38 * (g : Int) + 5) = -1 ∧ ¬ S 241 < snc S g 0
    · exact c
    · rw [if_neg c] at h
      omega
  have vn : ¬ S (38 * (g : Int) + 5) = -1 → ¬ S 241 < snc S g 0 → val S g = 1 := fun h1 h2 => by
    rw [val_snc, if_pos ⟨h1, h2⟩]
  have dn : S (38 * (g : Int) + 5) = -1 → vdf S g = -1 := fun h => by
    unfold vdf
    rw [if_pos h]
  have drg : -1 ≤ vdf S g ∧ vdf S g ≤ 50 := by
    by_cases c : S (38 * (g : Int) + 5) = -1
    · rw [dn c]; omega
    · rcases vdf_y c with ⟨h, -⟩ | ⟨v, h1, h2, -⟩ <;> omega
  have d0 : ¬ S (38 * (g : Int) + 5) = -1 → (vdf S g = 0 ↔ val S g = 0) := fun c => by
    rcases vdf_y c with ⟨h, h2⟩ | ⟨v, h1, h2, h3, h4⟩
    · have := vn c (h2 0 (by omega))
      omega
    · by_cases z : v = 0
      · subst z
        have : val S g = 0 := by
          rw [val_snc, if_neg (fun y => y.2 h3)]
        omega
      · have := vn c (h4 0 (by omega))
        omega
  have th5 := fun (o : OM) (q : Qt) (hP : RP o S q) => x_th hP.1 hB (by omega) hg 5 (by omega)
  have th6 := fun (o : OM) (q : Qt) (hP : RP o S q) => x_th hP.1 hB (by omega) hg 6 (by omega)
  have th7 := fun (o : OM) (q : Qt) (hP : RP o S q) => x_th hP.1 hB (by omega) hg 7 (by omega)
  have xv := fun (o : OM) (q : Qt) (hP : RP o S q) => x_void hP.1 hB (by omega) hg
  have c4 := fun (o : OM) (q : Qt) (hP : RP o S q) => x_cnt hP hB (by omega) (w := 4) (by omega) (by omega)
  simp only [cts_4] at c4
  simp only [show ((5 : Nat) : Int) = 5 from rfl, ofg_5] at th5
  simp only [show ((6 : Nat) : Int) = 6 from rfl, ofg_6] at th6
  simp only [show ((7 : Nat) : Int) = 7 from rfl, ofg_7] at th7
  unfold F_L_arePapersSo
  rw [show (-1 : Int32) = I (-1) from rfl, show (0 : Int32) = I 0 from rfl, show (1 : Int32) = I 1 from rfl, show (2 : Int32) = I 2 from rfl, show (3 : Int32) = I 3 from rfl, show (4 : Int32) = I 4 from rfl, show (5 : Int32) = I 5 from rfl, show (6 : Int32) = I 6 from rfl, show (7 : Int32) = I 7 from rfl, show (21 : Int32) = I 21 from rfl, show (50 : Int32) = I 50 from rfl]
  rw [b0_e (th5 o q hP), b0_e (th6 o q hP), b0_e (th7 o q hP), b0_e (xv o q hP), b0_e (c4 o q hP)]
  refine bd_p (Fin1 S (Y + 3600)) (fun k152 => Fin1 S (Y + 3600) (k152 (I 1))) ?_ (fun k152 hk => ?_)
  · try dsimp only
    obtain ⟨t, o13, e13, hd⟩ := ch6_s hP hb (by omega) hg
    rw [e13, bn_e]
    refine bd_p (Fin1 S (Y + 3600)) (fun k276 => ∀ o q, RP o S q → RB S q (Y + 1200) → Fin1 S (Y + 3600) (k276 o (I 1))) ?_ (fun k276 hk => ?_)
    · intro o q hP hb
      try dsimp only
      refine bd_p (Fin1 S (Y + 3600)) (fun k341 => ∀ o q, RP o S q → RB S q (Y + 2400) → Fin1 S (Y + 3600) (k341 o (I 1))) ?_ (fun k341 hk => ?_)
      · intro o q hP hb
        try dsimp only
        refine bd_p (Fin1 S (Y + 3600)) (fun k399 => ∀ o q, RP o S q → RB S q (Y + 3600) → Fin1 S (Y + 3600) (k399 o (I 1))) ?_ (fun k399 hk => ?_)
        · intro o q hP hb
          try dsimp only
          refine bd_p (Fin1 S (Y + 3600)) (fun k431 => ∀ o q, RP o S q → RB S q (Y + 3600) → Fin1 S (Y + 3600) (k431 o (I 1))) ?_ (fun k431 hk => ?_)
          · intro o q hP hb
            try dsimp only
            rw [isZ1, grd_e]
            exact ⟨o, q, rfl, hP, hb⟩
          · rw [bd_e, if_neg (show ¬ I 1 = I 0 by decide), b0_e (th6 o q hP), if_pos rfl, b0_e (xv o q hP), if_pos rfl]
            exact hk o q hP hb
        · by_cases c1 : vdf S g ≤ 0
          · rw [if_pos (by rw [I_le (by omega) (by omega) (by omega) (by omega)]; exact c1)]
            exact hk o q hP (hb.mono (by omega))
          · rw [if_neg (by rw [I_le (by omega) (by omega) (by omega) (by omega)]; exact c1)]
            by_cases c2 : 21 ≤ vdf S g
            · rw [if_pos (by rw [I_le (by omega) (by omega) (by omega) (by omega)]; exact c2)]
              exact hk o q hP (hb.mono (by omega))
            · rw [if_neg (by rw [I_le (by omega) (by omega) (by omega) (by omega)]; exact c2)]
              have hs1 : ¬ S (38 * (g : Int) + 5) = -1 := fun z => by have := dn z; omega
              rcases vdf_y hs1 with ⟨h, -⟩ | ⟨v, v1, v2, v3, v4⟩
              · omega
              · obtain ⟨p1, p2⟩ := void_pass hB hg (n := v) hs1 v1 v3 v4 (Nat.le_refl _)
                rw [if_pos rfl] at p2
                rw [Nat.sub_self, show ((0 : Nat) : Int) = 0 from rfl] at p1
                obtain ⟨o1, e1, r1, b1⟩ := run_pass hP hb (by omega) (n := v) (by omega) (by omega)
                have hg1 : g < gm (passS S v) := by rw [(hB.pass v).2.1]; exact hg
                have w6 := x_th r1.1 b1.1 (by omega) hg1 6 (by omega)
                rw [show ((6 : Nat) : Int) = 6 from rfl, ofg_6, p2] at w6
                have wv := x_void r1.1 b1.1 (by omega) hg1
                rw [p1] at wv
                obtain ⟨o2, q2, e2, -, r2, b2⟩ := c_back r1 b1 hb.2.2.1
                rw [v2, bd_e, bd_e, if_neg (show ¬ I 1 = I 0 by decide), b0_e e1, if_neg (by rw [I_le (by omega) (by omega) (by omega) (by omega)]; omega), b0_e w6, if_pos rfl, b0_e wv, if_pos rfl, b0_e e2, if_neg (by rw [I_lt (by split <;> omega) (by have := hb.2.2.1; split <;> omega) (by omega) (by omega)]; omega)]
                exact hk o2 q2 r2 b2
      · by_cases c1 : vdf S g ≤ 1
        · rw [if_pos (by rw [I_le (by omega) (by omega) (by omega) (by omega)]; exact c1)]
          exact hk o q hP (hb.mono (by omega))
        · rw [if_neg (by rw [I_le (by omega) (by omega) (by omega) (by omega)]; exact c1)]
          by_cases c2 : 21 ≤ vdf S g
          · rw [if_pos (by rw [I_le (by omega) (by omega) (by omega) (by omega)]; exact c2)]
            exact hk o q hP (hb.mono (by omega))
          · rw [if_neg (by rw [I_le (by omega) (by omega) (by omega) (by omega)]; exact c2)]
            have hs1 : ¬ S (38 * (g : Int) + 5) = -1 := fun z => by have := dn z; omega
            rcases vdf_y hs1 with ⟨h, -⟩ | ⟨v, v1, v2, v3, v4⟩
            · omega
            · obtain ⟨p1, p2⟩ := void_pass hB hg (n := v - 1) hs1 v1 v3 v4 (by omega)
              rw [if_neg (by omega)] at p2
              rw [show v - (v - 1) = 1 from by omega, show ((1 : Nat) : Int) = 1 from rfl] at p1
              obtain ⟨o1, e1, r1, b1⟩ := run_pass hP hb (by omega) (n := v - 1) (by omega) (by omega)
              have hg1 : g < gm (passS S (v - 1)) := by rw [(hB.pass (v - 1)).2.1]; exact hg
              have w6 := x_th r1.1 b1.1 (by omega) hg1 6 (by omega)
              rw [show ((6 : Nat) : Int) = 6 from rfl, ofg_6, p2] at w6
              have wv := x_void r1.1 b1.1 (by omega) hg1
              rw [p1] at wv
              obtain ⟨o2, q2, e2, -, r2, b2⟩ := c_back r1 b1 hb.2.2.1
              rw [v2, bd_e, bd_e, if_neg (show ¬ I 1 = I 0 by decide), I_sub, show (v : Int) - 1 = ((v - 1 : Nat) : Int) from by omega, b0_e e1, if_neg (by rw [I_le (by omega) (by omega) (by omega) (by omega)]; omega), b0_e w6, if_pos rfl, b0_e wv, if_pos rfl, b0_e e2, if_neg (by rw [I_lt (by split <;> omega) (by have := hb.2.2.1; split <;> omega) (by omega) (by omega)]; omega)]
              exact hk o2 q2 r2 b2
    · rw [bd_e, if_neg (show ¬ I 1 = I 0 by decide)]
      refine bd_p (Fin1 S (Y + 3600)) (fun k180 => Fin1 S (Y + 3600) (k180 (I (if t = 0 then 1 else 0)))) ?_ (fun k180 hk2 => ?_)
      · try dsimp only
        refine bd_p (Fin1 S (Y + 3600)) (fun k190 => Fin1 S (Y + 3600) (k190 (I (if t = 0 then 1 else 0)))) ?_ (fun k190 hk2 => ?_)
        · try dsimp only
          rw [if_pos rfl]
          refine bd_p (Fin1 S (Y + 3600)) (fun k250 => ∀ o q, RP o S q → RB S q (Y + 1200) → Fin1 S (Y + 3600) (k250 o)) ?_ (fun k250 hk2 => ?_)
          · intro o q hP hb
            try dsimp only
            refine bd_p (Fin1 S (Y + 3600)) (fun k261 => Fin1 S (Y + 3600) (k261 ())) ?_ (fun k261 hk2 => ?_)
            · try dsimp only
              rw [b0_e (c4 o q hP), if_pos rfl]
              exact hk o q hP hb
            · rcases hd with ⟨h0, ht, -⟩ | ⟨h0, ht, -⟩
              · rw [if_pos (by rw [ht])]
                exact hk2
              · rw [if_neg (by rw [ht]; decide), if_pos (by rw [ht])]
                exact hk2
          · rcases hd with ⟨h0, ht, r1, b1, w1⟩ | ⟨h0, ht, r1, b1⟩
            · obtain ⟨z1, z2⟩ := ref_seal hB hg h0
              obtain ⟨s1, s2, s3, s4⟩ := sealS_at S (g := g) (by omega)
              have egm : gm (sealS S g) = gm S := by
                show Int.toNat _ = _
                rw [s4 228 (by omega) (by omega) (by omega)]
                rfl
              have hg1 : g < gm (sealS S g) := by rw [egm]; exact hg
              have u5 := x_th r1.1 b1.1 (by omega) hg1 5 (by omega)
              rw [show ((5 : Nat) : Int) = 5 from rfl, ofg_5, s2] at u5
              have u6 := x_th r1.1 b1.1 (by omega) hg1 6 (by omega)
              rw [show ((6 : Nat) : Int) = 6 from rfl, ofg_6, z1] at u6
              have u7 := x_th r1.1 b1.1 (by omega) hg1 7 (by omega)
              rw [show ((7 : Nat) : Int) = 7 from rfl, ofg_7, z2] at u7
              obtain ⟨o2, q2, e2, -, r2, b2⟩ := c_back r1 b1 hb.2.2.1
              have i0 : inB (I 0) 1 = true := by decide
              have t0 : (I 0).toNatClampNeg = 0 := by decide
              rw [if_pos (by rw [ht]), i0, grd_e, t0, w1, I_add, if_pos rfl, b0_e u5, if_pos rfl, b0_e u6, if_pos rfl, b0_e u7, if_pos rfl, b0_e e2, if_neg (by rw [I_lt (by split <;> omega) (by have := hb.2.2.1; split <;> omega) (by omega) (by omega)]; omega)]
              exact hk2 o2 q2 r2 b2
            · rw [if_neg (by rw [ht]; decide)]
              exact hk2 o13 q r1 b1
        · rcases hd with ⟨h0, ht, -⟩ | ⟨h0, ht, -⟩
          · rw [if_pos ht] at hk2
            rw [if_pos (by rw [h0])]
            exact hk2
          · rw [if_neg (by omega)] at hk2
            rw [if_neg (by rw [I_eq (by omega) (by omega) (by omega) (by omega)]; exact h0)]
            exact hk2
      · rcases hd with ⟨h0, ht, -⟩ | ⟨h0, ht, -⟩
        · rw [if_pos ht] at hk2
          rw [if_pos (by rw [ht])]
          exact hk2
        · rw [if_neg (by omega)] at hk2
          rw [if_neg (by rw [ht]; decide)]
          exact hk2
  · rw [bd_e, if_neg (by rw [I_lt (by omega) (by omega) (by omega) (by omega)]; omega)]
    refine bd_p (Fin1 S (Y + 3600)) (fun k => Fin1 S (Y + 3600) (k ())) ?_ (fun k54 hk2 => ?_)
    · try dsimp only
      refine bd_p (Fin1 S (Y + 3600)) (fun k => Fin1 S (Y + 3600) (k ())) ?_ (fun k63 hk2 => ?_)
      · try dsimp only
        refine bd_p (Fin1 S (Y + 3600)) (fun k => Fin1 S (Y + 3600) (k ())) ?_ (fun k81 hk2 => ?_)
        · try dsimp only
          refine bd_p (Fin1 S (Y + 3600)) (fun k => Fin1 S (Y + 3600) (k ())) ?_ (fun k93 hk2 => ?_)
          · try dsimp only
            refine bd_p (Fin1 S (Y + 3600)) (fun k => Fin1 S (Y + 3600) (k ())) ?_ (fun k103 hk2 => ?_)
            · try dsimp only
              refine bd_p (Fin1 S (Y + 3600)) (fun k => Fin1 S (Y + 3600) (k ())) ?_ (fun k113 hk2 => ?_)
              · try dsimp only
                refine bd_p (Fin1 S (Y + 3600)) (fun k => Fin1 S (Y + 3600) (k ())) ?_ (fun k140 hk2 => ?_)
                · try dsimp only
                  rw [if_neg (by rw [I_lt (by omega) (by omega) (by omega) (by omega)]; omega)]
                  exact hk
                · by_cases c : S (38 * (g : Int) + 5) < 0
                  · rw [if_pos (by rw [I_lt (by omega) (by omega) (by omega) (by omega)]; exact c)]
                    exact hk2
                  · have d00 := d0 (by omega)
                    rw [if_neg (by rw [I_lt (by omega) (by omega) (by omega) (by omega)]; exact c)]
                    refine bd_p (Fin1 S (Y + 3600)) (fun k => Fin1 S (Y + 3600) (k (I (if val S g = 0 then 1 else 0)))) ?_ (fun k127 hk3 => ?_)
                    · try dsimp only
                      refine bd_p (Fin1 S (Y + 3600)) (fun k => Fin1 S (Y + 3600) (k (I (if val S g = 0 then 1 else 0)))) ?_ (fun k137 hk3 => ?_)
                      · try dsimp only
                        rw [if_pos rfl]
                        exact hk2
                      · by_cases z : val S g = 0
                        · rw [if_pos z] at hk3
                          rw [if_pos (by rw [z])]
                          exact hk3
                        · rw [if_neg z] at hk3
                          rw [if_neg (by rw [I_eq (by omega) (by omega) (by omega) (by omega)]; exact z)]
                          exact hk3
                    · by_cases z : val S g = 0
                      · rw [if_pos z] at hk3
                        rw [if_pos (by rw [I_eq (by omega) (by omega) (by omega) (by omega)]; exact d00.mpr z)]
                        exact hk3
                      · rw [if_neg z] at hk3
                        rw [if_neg (by rw [I_eq (by omega) (by omega) (by omega) (by omega)]; exact fun y => z (d00.mp y))]
                        exact hk3
              · by_cases c : 0 < S (38 * (g : Int) + 5)
                · rw [if_pos (by rw [I_lt (by omega) (by omega) (by omega) (by omega)]; exact c)]
                  exact hk2
                · rw [if_neg (by rw [I_lt (by omega) (by omega) (by omega) (by omega)]; exact c), if_pos (by rw [dn (by omega)])]
                  exact hk2
            · by_cases z : val S g = 0
              · rw [if_pos (by rw [z])]
                exact hk2
              · have := f3 (by omega)
                rw [if_neg (by rw [I_eq (by omega) (by omega) (by omega) (by omega)]; exact z), if_neg (by rw [I_le (by omega) (by omega) (by omega) (by omega)]; omega)]
                exact hk2
          · by_cases z : ref S g = 5
            · rw [if_pos (by rw [z]), if_pos (by rw [f2 z])]
              exact hk2
            · rw [if_neg (by rw [I_eq (by omega) (by omega) (by omega) (by omega)]; exact z)]
              exact hk2
        · by_cases z : ref S g = 0
          · rw [if_pos (by rw [z])]
            exact hk2
          · rw [if_neg (by rw [I_eq (by omega) (by omega) (by omega) (by omega)]; exact z), if_neg (by rw [I_le (by omega) (by omega) (by omega) (by omega)]; omega), if_neg (by rw [I_le (by omega) (by omega) (by omega) (by omega)]; omega)]
            exact hk2
      · by_cases z : val S g = 0
        · rw [if_pos (by rw [z])]
          exact hk2
        · have := vy (by omega)
          rw [if_neg (by rw [I_eq (by omega) (by omega) (by omega) (by omega)]; exact z), if_neg (by rw [I_le (by omega) (by omega) (by omega) (by omega)]; omega)]
          exact hk2
    · by_cases c : S (38 * (g : Int) + 5) = -1
      · rw [if_pos (by rw [c])]
        exact hk2
      · rw [if_neg (by rw [I_eq (by omega) (by omega) (by omega) (by omega)]; exact c), if_neg (by rw [I_le (by omega) (by omega) (by omega) (by omega)]; omega)]
        exact hk2
end
