/-! changes: both answer alike, and hold the same -/
theorem char_e : ∀ n : Nat, n < 127 → vp_nar .char (((I (n : Int)).toUInt32 % 65536).toInt32) = I (n : Int) := by decide +kernel
section
variable {o : OM} {S : Int → Int} {g Y : Nat} {q : Qt}
theorem ok_chg {cs : List Nat} {P : OM → Option ((Nat × Int32) × OM)} {M : OM → Option (Int32 × OM)} (r : Int32) (S' : Int → Int) (q' : Qt) (hc : okc cs 0 = true) (hw : wk cs 0 = I 0) (hb' : RB S' q' (Y + 1200)) (h1 : ∀ o, RP o S q → ∃ o1, P o = some ((0, r), o1) ∧ Gp o o1 ∧ RP o1 S' q') (h2 : ∀ o, RM o S q → ∃ o1, M o = some (r, o1) ∧ Gm o o1 ∧ RM o1 S' q' ∧ rd o1 19 0 0 = I 0) : OK2 cs P M S q Y :=
  ⟨0, r, S', q', hc, h1, fun o h => by
    obtain ⟨o1, e, g, m, t⟩ := h2 o h
    exact ⟨r, o1, e, g, m, by rw [t, hw], fun _ => rfl⟩, hb'⟩
theorem RM.chg (h : RM o S q) (hb : RB S q Y) : ∃ o1, F_X6_save (wr o 19 0 0 (I 0)) = some ((), o1) ∧ RM o1 S (pushQ q S) ∧ Gm o o1 ∧ rd o1 19 0 0 = I 0 := by
  obtain ⟨o1, e1, r1, g1, t1⟩ := (h.w19 (j := 0) (I 0) (by omega)).push hb
  exact ⟨o1, e1, r1, ((Gm.rf o).wr (by omega)).tr g1, by rw [t1, rd_wr]⟩
theorem RM.fin {o1 o2 : OM} {S' : Int → Int} (r1 : RM o1 S q) (g : Gm o o1) (t : rd o1 19 0 0 = I 0) (f : Fk o1 o2 20) (s : MS o2 S') : Gm o o2 ∧ RM o2 S' q ∧ rd o2 19 0 0 = I 0 := ⟨g.tr (f.gm (by omega)), r1.op f s, by rw [f.rd (by omega)]; exact t⟩
theorem ok_make (hb : RB S q Y) (hY : Y ≤ 700000) {a b c : Int} (ha : R32 a) (hbb : R32 b) (hc : R32 c) : OK2 [1, 2] (fun o => F_X5_make o (I a) (I b) (I c)) (fun o => F_X6_make o (I a) (I b) (I c)) S q Y := by
  have hm := hb.1.m
  have bad : (¬ (-50 ≤ a ∧ a ≤ 50) ∨ ¬ (-50 ≤ b ∧ b ≤ 50) ∨ ¬ (0 ≤ c ∧ c ≤ 3)) → OK2 [1, 2] (fun o => F_X5_make o (I a) (I b) (I c)) (fun o => F_X6_make o (I a) (I b) (I c)) S q Y := by
    intro hx
    have ex : ∃ x y z : Bool, True := ⟨true, true, true, trivial⟩
    refine ok_look 1 1 0 rfl rfl hb (fun o h => ?_) (fun o h => ⟨I 0, ?_, fun z => absurd z (by decide)⟩)
    · show F_X5_make o _ _ _ = _
      unfold F_X5_make
      by_cases c1 : -50 ≤ a ∧ a ≤ 50
      · have e1 := wi_y o ha (b := -50) (c := 50) (by omega) (by omega) c1
        by_cases c2 : -50 ≤ b ∧ b ≤ 50
        · have e2 := wi_y o hbb (b := -50) (c := 50) (by omega) (by omega) c2
          have e3 := wi_n o hc (b := 0) (c := 3) (by omega) (by omega) (by omega)
          simp only [I_lit, I_neg, ↓bd_e, bq_e, bn_e, i10, i00, ↓reduceIte, holds_0, holds_1, holds_2, e1, e2, e3]
        · have e2 := wi_n o hbb (b := -50) (c := 50) (by omega) (by omega) c2
          simp only [I_lit, I_neg, ↓bd_e, bq_e, bn_e, i10, i00, ↓reduceIte, holds_0, holds_1, holds_2, e1, e2]
      · have e1 := wi_n o ha (b := -50) (c := 50) (by omega) (by omega) c1
        simp only [I_lit, I_neg, ↓bd_e, bq_e, bn_e, i10, i00, ↓reduceIte, holds_0, holds_1, holds_2, e1]
    · unfold F_X6_make
      by_cases c1 : -50 ≤ a ∧ a ≤ 50
      · have e1 := in_y o ha (b := -50) (c := 50) (by omega) (by omega) c1
        by_cases c2 : -50 ≤ b ∧ b ≤ 50
        · have e2 := in_y o hbb (b := -50) (c := 50) (by omega) (by omega) c2
          have e3 := in_n o hc (b := 0) (c := 3) (by omega) (by omega) (by omega)
          simp only [I_lit, I_neg, ↓bd_e, bq_e, bn_e, i10, i00, ↓reduceIte, holds_0, holds_1, holds_2, e1, e2, e3]
        · have e2 := in_n o hbb (b := -50) (c := 50) (by omega) (by omega) c2
          simp only [I_lit, I_neg, ↓bd_e, bq_e, bn_e, i10, i00, ↓reduceIte, holds_0, holds_1, holds_2, e1, e2]
      · have e1 := in_n o ha (b := -50) (c := 50) (by omega) (by omega) c1
        simp only [I_lit, I_neg, ↓bd_e, bq_e, bn_e, i10, i00, ↓reduceIte, holds_0, holds_1, holds_2, e1]
  by_cases c1 : -50 ≤ a ∧ a ≤ 50
  · by_cases c2 : -50 ≤ b ∧ b ≤ 50
    · by_cases c3 : 0 ≤ c ∧ c ≤ 3
      · by_cases c4 : gm S < 6
        · refine ok_chg (I (gm S : Int)) (makeS S a b c) (pushQ q S) rfl rfl (hb.push.op (by omega) ((hb.1.make c4 c1 c2 c3).mono (by omega)) (fun x h1 h2 => makeS_lo _ _ _ _ (by omega) (by omega))) (fun o h => ?_) (fun o h => ?_)
          · obtain ⟨o1, e1, r1, g1, -⟩ := h.push hb
            obtain ⟨o2, e2, f2, k4, c2'⟩ := addTh_e r1.1 hb.1 (r1.2.1 0 (by omega)) c4 a b c
            have q2 := c2'.2.2.1
            rw [(makeS_gm S a b c hm.1).1] at q2
            refine ⟨o2, ?_, g1.tr f2.gp, r1.op4 f2 k4 c2'⟩
            have w1 := wi_y o ha (b := -50) (c := 50) (by omega) (by omega) c1
            have w2 := wi_y o hbb (b := -50) (c := 50) (by omega) (by omega) c2
            have w3 := wi_y o hc (b := 0) (c := 3) (by omega) (by omega) c3
            have w4 := hasRoom_e h.1 hb.1
            rw [tf_t c4] at w4
            show F_X5_make o _ _ _ = _
            unfold F_X5_make
            simp only [I_lit, I_neg, ↓bd_e, bq_e, bn_e, i10, i00, ↓reduceIte, holds_0, holds_1, holds_2, w1, w2, w3, w4, e1, e2, q2, I_sub]
            rw [show (gm S : Int) + 1 - 1 = (gm S : Int) from by omega]
          · obtain ⟨o1, e1, r1, g1, t1⟩ := h.chg hb
            obtain ⟨o2, e2, f2, s2⟩ := makes_e r1.1 hb.1 c4 a b c
            refine ⟨o2, ?_, RM.fin r1 g1 t1 f2 s2⟩
            have w1 := in_y o ha (b := -50) (c := 50) (by omega) (by omega) c1
            have w2 := in_y o hbb (b := -50) (c := 50) (by omega) (by omega) c2
            have w3 := in_y o hc (b := 0) (c := 3) (by omega) (by omega) c3
            have w4 := h.1 228 (by omega) (by omega)
            rw [hm.1] at w4
            have w5 : (I (gm S : Int) = I 6) = False := eq_false (fun z => by have := I_inj (by omega) (by omega) (by omega) (by omega) z; omega)
            have w6 : inB (I 228) 244 = true := by decide
            unfold F_X6_make
            simp only [I_lit, I_neg, ↓bd_e, bq_e, bn_e, i10, i00, ↓reduceIte, holds_0, holds_1, holds_2, w1, w2, w3, w4, w5, w6, grd_e, e1, e2]
        · refine ok_look 2 2 0 rfl rfl hb (fun o h => ?_) (fun o h => ⟨I 0, ?_, fun z => absurd z (by decide)⟩)
          · have w1 := wi_y o ha (b := -50) (c := 50) (by omega) (by omega) c1
            have w2 := wi_y o hbb (b := -50) (c := 50) (by omega) (by omega) c2
            have w3 := wi_y o hc (b := 0) (c := 3) (by omega) (by omega) c3
            have w4 := hasRoom_e h.1 hb.1
            rw [tf_f c4] at w4
            show F_X5_make o _ _ _ = _
            unfold F_X5_make
            simp only [I_lit, I_neg, ↓bd_e, bq_e, bn_e, i10, i00, ↓reduceIte, holds_0, holds_1, holds_2, w1, w2, w3, w4]
          · have w1 := in_y o ha (b := -50) (c := 50) (by omega) (by omega) c1
            have w2 := in_y o hbb (b := -50) (c := 50) (by omega) (by omega) c2
            have w3 := in_y o hc (b := 0) (c := 3) (by omega) (by omega) c3
            have w4 := h.1 228 (by omega) (by omega)
            rw [show S 228 = 6 from by omega] at w4
            have w5 : (I 6 = I 6) = True := eq_self _
            have w6 : inB (I 228) 244 = true := by decide
            unfold F_X6_make
            simp only [I_lit, I_neg, ↓bd_e, bq_e, bn_e, i10, i00, ↓reduceIte, holds_0, holds_1, holds_2, w1, w2, w3, w4, w5, w6, grd_e]
      · exact bad (Or.inr (Or.inr c3))
    · exact bad (Or.inr (Or.inl c2))
  · exact bad (Or.inl c1)
theorem ok_breakOne (hb : RB S q Y) (hY : Y ≤ 700000) {a : Int} (ha : R32 a) : OK2 [3] (fun o => F_X5_breakOne o (I a)) (fun o => F_X6_breakOne o (I a)) S q Y := by
  have hm := hb.1.m
  by_cases c1 : 0 ≤ a ∧ a < (gm S : Int)
  · obtain ⟨g, rfl⟩ : ∃ g : Nat, a = (g : Int) := ⟨a.toNat, by omega⟩
    have hg : g < gm S := by omega
    refine ok_chg (I (gn S g : Int)) (brkS S g) (pushQ q S) rfl rfl (hb.push.op (by omega) ((hb.1.brk hg).mono (by omega)) (fun x h1 h2 => brkS_hi _ _ (by omega) (by omega))) (fun o h => ?_) (fun o h => ?_)
    · obtain ⟨o1, e1, r1, g1, -⟩ := h.push hb
      obtain ⟨o2, e2, f2, p2, c2⟩ := removeTh_e r1.1 hb.1 (r1.2.1 0 (by omega)) hg
      refine ⟨o2, ?_, g1.tr f2.gp, r1.op f2 p2 c2⟩
      have hn := (h.1.t hg).n
      show F_X5_breakOne o _ = _
      unfold F_X5_breakOne
      rw [need_y h.1 hb.1 ha c1, bx_0, I_inB (a := (g : Int)) (by omega) (by omega) (by omega), grd_e, I_tcN (by omega), bd_e, hn, bd_e, e1, bn_e, e2, bn_e]
    · obtain ⟨o1, e1, r1, g1, t1⟩ := h.chg hb
      have hFU : 300 < FU := by unfold FU; omega
      have w1 := there_y h.1 hb.1 ha c1
      have w7 := get7 r1.1 (show g < 6 by omega) (hb.1.g hg).n
      unfold F_X6_breakOne
      generalize FU = F at hFU ⊢
      obtain ⟨o2, e2, f2, x2⟩ := break_loop (fun (o_9 : OM) => grd (inB ((228 : Int32)) 244) (grd (inB ((228 : Int32)) 244) (bd (wr o_9 20 0 ((228 : Int32)).toNatClampNeg ((rd o_9 20 0 ((228 : Int32)).toNatClampNeg) - ((1 : Int32)))) (fun o_10 : OM => some (I (gn S g : Int), o_10))))) F o1 (38 * (g : Int)) (by omega) (by omega) (by omega)
      have x228 : rd o2 20 0 (I 228).toNatClampNeg = I (S 228) := by
        have := x2 228 (by omega) (by omega)
        rw [if_neg (by omega)] at this
        exact this.trans (r1.1 228 (by omega) (by omega))
      have w6 : inB (I 228) 244 = true := by decide
      have s2 : MS (wr o2 20 0 (I 228).toNatClampNeg (I (S 228 - 1))) (brkS S g) := fun b b1 b2 => by
        show X (wr o2 20 0 (I 228).toNatClampNeg (I (S 228 - 1))) 20 b = _
        rw [X_eq _ _ (by omega) (by omega) (by omega) (by omega)]
        unfold brkS
        by_cases k : b = 228
        · rw [if_pos k, if_pos k]
        · rw [if_neg k, if_neg k, x2 b b1 b2]
          by_cases k2 : 38 * (g : Int) ≤ b ∧ b < 190
          · rw [if_pos k2, if_pos k2]
            exact r1.1 (b + 38) (by omega) (by omega)
          · rw [if_neg k2, if_neg k2]
            exact r1.1 b b1 b2
      refine ⟨wr o2 20 0 (I 228).toNatClampNeg (I (S 228 - 1)), ?_, RM.fin r1 g1 t1 f2.wr s2⟩
      rw [w1, bq_e, bd_e, if_neg (by decide), show (0 : Int32) = I 0 from rfl]
      dsimp only
      rw [holds_0, bn_e, if_neg (by decide), e1, bn_e, show (7 : Int32) = I 7 from rfl, w7, bq_e, of_e, bq_e, bd_e, Int.add_zero, e2]
      rw [show (228 : Int32) = I 228 from rfl, show (1 : Int32) = I 1 from rfl, w6, grd_e, grd_e, x228, I_sub, bd_e]
  · refine ok_look 3 1 0 rfl rfl hb (fun o h => ?_) (fun o h => ⟨I 0, ?_, fun z => absurd z (by decide)⟩)
    · show F_X5_breakOne o _ = _
      unfold F_X5_breakOne
      rw [need_n h.1 hb.1 ha c1, bx_3]
    · have e1 := there_n h.1 hb.1 ha c1
      unfold F_X6_breakOne
      simp only [I_lit, I_neg, ↓bd_e, bq_e, bn_e, i10, i00, ↓reduceIte, holds_0, holds_1, holds_2, e1]
theorem ok_bath (hb : RB S q Y) (hY : Y ≤ 700000) {a z : Int} (ha : R32 a) (hz : R32 z) : OK2 [3, 1] (fun o => F_X5_bath o (I a) (I z)) (fun o => F_X6_bath o (I a) (I z)) S q Y := by
  have hm := hb.1.m
  by_cases c1 : 0 ≤ a ∧ a ≤ 3
  · by_cases c2 : -400 ≤ z ∧ z ≤ 1500
    · refine ok_chg (I (S (229 + a) + 10000)) (upI S (229 + a) z) (pushQ q S) rfl rfl (hb.push.op (by omega) (hb.1.up (by omega) (Or.inl (by omega))) (fun x h1 h2 => upI_n _ _ (by omega))) (fun o h => ?_) (fun o h => ?_)
      · obtain ⟨o1, e1, r1, g1, -⟩ := h.push hb
        have qa := h.1.2.2.2.2.2.1 a (by omega) (by omega)
        refine ⟨wr o1 2 0 (I a).toNatClampNeg (I z), ?_, g1.wr (by omega), r1.op4 ((Fz.rf o1).wr (by omega)) (wr_ne _ _ (by omega)) (r1.1.s2 hb.1.wb (by omega) (by omega) z)⟩
        show F_X5_bath o _ _ = _
        unfold F_X5_bath
        rw [bath_y o c1, bx_0, deg_y o c2, bx_0, I_inB (a := a) (by omega) (by omega) (by omega), grd_e, qa, bd_e, e1, bn_e, grd_e, bd_e, show (10000 : Int32) = I 10000 from rfl, I_add]
      · obtain ⟨o1, e1, r1, g1, t1⟩ := h.chg hb
        obtain ⟨o2, e2, f2, s2⟩ := fills_e r1.1 (b := a) (by omega) (by omega) z
        refine ⟨o2, ?_, RM.fin r1 g1 t1 f2 s2⟩
        have w1 := mbath_y o c1
        have w2 := mdeg_y o c2
        unfold F_X6_bath
        simp only [I_lit, I_neg, ↓bd_e, bq_e, bn_e, i10, i00, ↓reduceIte, holds_0, holds_1, holds_2, w1, w2, e1, e2]
    · refine ok_look 1 2 0 rfl rfl hb (fun o h => ?_) (fun o h => ⟨I 0, ?_, fun z => absurd z (by decide)⟩)
      · show F_X5_bath o _ _ = _
        unfold F_X5_bath
        rw [bath_y o c1, bx_0, deg_n o hz c2, bx_1]
      · have w1 := mbath_y o c1
        have w2 := mdeg_n o hz c2
        unfold F_X6_bath
        simp only [I_lit, I_neg, ↓bd_e, bq_e, bn_e, i10, i00, ↓reduceIte, holds_0, holds_1, holds_2, w1, w2]
  · refine ok_look 3 1 0 rfl rfl hb (fun o h => ?_) (fun o h => ⟨I 0, ?_, fun z => absurd z (by decide)⟩)
    · show F_X5_bath o _ _ = _
      unfold F_X5_bath
      rw [bath_n o ha c1, bx_3]
    · have w1 := mbath_n o ha c1
      unfold F_X6_bath
      simp only [I_lit, I_neg, ↓bd_e, bq_e, bn_e, i10, i00, ↓reduceIte, holds_0, holds_1, holds_2, w1]
theorem ok_pass (hb : RB S q Y) (hY : Y ≤ 700000) {a : Int} (ha : R32 a) : OK2 [1] (fun o => F_X5_pass o (I a)) (fun o => F_X6_pass o (I a)) S q Y := by
  by_cases c1 : 1 ≤ a ∧ a ≤ 20
  · obtain ⟨n, rfl⟩ : ∃ g : Nat, a = (g : Int) := ⟨a.toNat, by omega⟩
    obtain ⟨B, -, e3⟩ := hb.1.pass n
    refine ok_chg (I (S 233 + (n : Int))) (passS S n) (pushQ q S) rfl rfl (hb.push.op (by omega) (B.mono (by omega)) (fun x h1 h2 => passS_hi hb.1 (by omega) n)) (fun o h => ?_) (fun o h => ?_)
    · obtain ⟨o1, e1, r1, g1, -⟩ := h.push hb
      obtain ⟨o2, e2, f2, k4, c2⟩ := letPass_e r1.1 hb.1 (r1.2.1 0 (by omega)) (n := n) (by omega) (by omega)
      refine ⟨o2, ?_, g1.tr f2.gp, r1.op4 f2 k4 c2⟩
      have w1 := wi_y o ha (b := 1) (c := 20) (by omega) (by omega) c1
      have q0 := c2.1
      rw [e3] at q0
      show F_X5_pass o _ = _
      unfold F_X5_pass
      simp only [I_lit, I_neg, ↓bd_e, bq_e, bn_e, i10, i00, ↓reduceIte, holds_0, holds_1, holds_2, w1, e1, e2, q0]
    · obtain ⟨o1, e1, r1, g1, t1⟩ := h.chg hb
      obtain ⟨o2, e2, f2, s2⟩ := passes_e r1.1 hb.1 (n := n) (by omega) (by omega)
      refine ⟨o2, ?_, RM.fin r1 g1 t1 f2 s2⟩
      have w1 := in_y o ha (b := 1) (c := 20) (by omega) (by omega) c1
      unfold F_X6_pass
      simp only [I_lit, I_neg, ↓bd_e, bq_e, bn_e, i10, i00, ↓reduceIte, holds_0, holds_1, holds_2, w1, e1, e2]
  · refine ok_look 1 1 0 rfl rfl hb (fun o h => ?_) (fun o h => ⟨I 0, ?_, fun z => absurd z (by decide)⟩)
    · have w1 := wi_n o ha (b := 1) (c := 20) (by omega) (by omega) c1
      show F_X5_pass o _ = _
      unfold F_X5_pass
      simp only [I_lit, I_neg, ↓bd_e, bq_e, bn_e, i10, i00, ↓reduceIte, holds_0, holds_1, holds_2, w1]
    · have w1 := in_n o ha (b := 1) (c := 20) (by omega) (by omega) c1
      unfold F_X6_pass
      simp only [I_lit, I_neg, ↓bd_e, bq_e, bn_e, i10, i00, ↓reduceIte, holds_0, holds_1, holds_2, w1]
theorem lim_e : ∀ n : Nat, n < 7 → fSL n = I (lim (n : Int)) := by decide +kernel
theorem lim_rg (k : Int) : 0 ≤ lim k ∧ lim k ≤ 100 := by
  unfold lim
  split
  · omega
  · split <;> omega
theorem greatest_e (o : OM) {a : Int} (h : 0 ≤ a ∧ a ≤ 6) : F_X6_greatest o (I a) = some (I (lim a)) := by
  have hc : a = 0 ∨ a = 1 ∨ a = 2 ∨ a = 3 ∨ a = 4 ∨ a = 5 ∨ a = 6 := by omega
  unfold F_X6_greatest lim
  rcases hc with rfl | rfl | rfl | rfl | rfl | rfl | rfl <;> simp (disch := omega) only [↓bd_e, bq_e, bn_e, grd_e, I_add, I_sub, I_mul, I_neg, isZ0, isZ1, isZ_tf, tf_z, tf_le, I_lit, I_inB, I_tcN, I_lt, I_le, I_eq, ↓reduceIte, not_true_eq_false, not_false_eq_true, nz, Int.reduceEq, Int.reduceLE, Int.reduceLT]
theorem ok_set (hb : RB S q Y) (hY : Y ≤ 700000) {a v : Int} (ha : R32 a) (hv : R32 v) : OK2 [3, 1] (fun o => F_X5_set o (I a) (I v)) (fun o => F_X6_set o (I a) (I v)) S q Y := by
  by_cases c1 : 0 ≤ a ∧ a ≤ 6
  · have hl := lim_rg a
    have fs : fSL (I a).toNatClampNeg = I (lim a) := by
      rw [I_tc c1.1 (by omega), lim_e _ (by omega), show ((a.toNat : Nat) : Int) = a from by omega]
    have wa := fun o => wi_y o ha (b := 0) (c := 6) (by omega) (by omega) c1
    have ma := fun o => in_y o ha (b := 0) (c := 6) (by omega) (by omega) c1
    have hi : inB (I a) 7 = true := I_inB (by omega) (by omega) (by omega)
    by_cases c2 : 0 ≤ v ∧ v ≤ lim a
    · refine ok_chg (I (S (235 + a))) (upI S (235 + a) v) (pushQ q S) rfl rfl (hb.push.op (by omega) (hb.1.up (by omega) (Or.inr (Or.inr (Or.inl ⟨by omega, by omega, c2.1, by rw [show 235 + a - 235 = a from by omega]; exact c2.2⟩)))) (fun x h1 h2 => upI_n _ _ (by omega))) (fun o h => ?_) (fun o h => ?_)
      · obtain ⟨o1, e1, r1, g1, -⟩ := h.push hb
        have qa := h.1.2.2.2.2.2.2.1 a (by omega) (by omega)
        have w1 := wa o
        have w2 := wi_y o hv (b := 0) (c := lim a) (by omega) (by omega) c2
        refine ⟨wr o1 3 0 (I a).toNatClampNeg (I v), ?_, g1.wr (by omega), r1.op4 ((Fz.rf o1).wr (by omega)) (wr_ne _ _ (by omega)) (r1.1.s3 hb.1.wb (by omega) (by omega) v)⟩
        show F_X5_set o _ _ = _
        unfold F_X5_set
        simp only [I_lit, I_neg, ↓bd_e, bq_e, bn_e, i10, i00, ↓reduceIte, holds_0, holds_1, holds_2, w1, fs, w2, hi, grd_e, qa, e1]
      · obtain ⟨o1, e1, r1, g1, t1⟩ := h.chg hb
        have w1 := ma o
        have wg := greatest_e o c1
        have w2 := in_y o hv (b := 0) (c := lim a) (by omega) (by omega) c2
        have qa := r1.1 (235 + a) (by omega) (by omega)
        have hi2 : inB (I (235 + a)) 244 = true := I_inB (by omega) (by omega) (by omega)
        refine ⟨wr o1 20 0 (I (235 + a)).toNatClampNeg (I v), ?_, RM.fin r1 g1 t1 ((Fk.rf o1 20).wr) (r1.1.up (by omega) (by omega) v)⟩
        unfold F_X6_set
        simp only [I_lit, I_neg, ↓bd_e, bq_e, bn_e, i10, i00, ↓reduceIte, holds_0, holds_1, holds_2, w1, wg, w2, e1, I_add, hi2, grd_e, qa]
    · refine ok_look 1 2 0 rfl rfl hb (fun o h => ?_) (fun o h => ⟨I 0, ?_, fun z => absurd z (by decide)⟩)
      · have w1 := wa o
        have w2 := wi_n o hv (b := 0) (c := lim a) (by omega) (by omega) c2
        show F_X5_set o _ _ = _
        unfold F_X5_set
        simp only [I_lit, I_neg, ↓bd_e, bq_e, bn_e, i10, i00, ↓reduceIte, holds_0, holds_1, holds_2, w1, fs, w2, hi, grd_e]
      · have w1 := ma o
        have wg := greatest_e o c1
        have w2 := in_n o hv (b := 0) (c := lim a) (by omega) (by omega) c2
        unfold F_X6_set
        simp only [I_lit, I_neg, ↓bd_e, bq_e, bn_e, i10, i00, ↓reduceIte, holds_0, holds_1, holds_2, w1, wg, w2]
  · refine ok_look 3 1 0 rfl rfl hb (fun o h => ?_) (fun o h => ⟨I 0, ?_, fun z => absurd z (by decide)⟩)
    · have w1 := wi_n o ha (b := 0) (c := 6) (by omega) (by omega) c1
      show F_X5_set o _ _ = _
      unfold F_X5_set
      simp only [I_lit, I_neg, ↓bd_e, bq_e, bn_e, i10, i00, ↓reduceIte, holds_0, holds_1, holds_2, w1]
    · have w1 := in_n o ha (b := 0) (c := 6) (by omega) (by omega) c1
      unfold F_X6_set
      simp only [I_lit, I_neg, ↓bd_e, bq_e, bn_e, i10, i00, ↓reduceIte, holds_0, holds_1, holds_2, w1]
end
