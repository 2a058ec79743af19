/-! more changes -/
section
variable {o : OM} {S : Int → Int} {g Y : Nat} {q : Qt}
theorem ok_measure (hb : RB S q Y) (hY : Y ≤ 700000) {a b : Int} (ha : R32 a) (hbb : R32 b) : OK2 [3, 2] (fun o => F_X5_measure o (I a) (I b)) (fun o => F_X6_measure o (I a) (I b)) S q Y := by
  have hm := hb.1.m
  by_cases c1 : 0 ≤ a ∧ a < (gm S : Int)
  · obtain ⟨g, rfl⟩ : ∃ g : Nat, a = (g : Int) := ⟨a.toNat, by omega⟩
    have hg : g < gm S := by omega
    by_cases c2 : 0 ≤ b ∧ b ≤ 3
    · have hz := hb.1.2.1 b (by omega) (by omega)
      have hr := hnd_rg S g (S (229 + b))
      by_cases c3 : hnd S g (S (229 + b)) = 0
      · refine ok_chg (I ((gn (dropS S g (S (229 + b))) g : Int) + 1)) (measS S g (S (229 + b))) (pushQ q S) rfl rfl (hb.push.op (by omega) ((hb.1.meas (by omega) hg hz.1 hz.2 c3).mono (by omega)) (fun x h1 h2 => measS_lo (hb.1.g hg) c3 (by omega))) (fun o h => ?_) (fun o h => ?_)
        · obtain ⟨o1, e1, r1, g1, k1, k5⟩ := h.push hb
          have et : tid 0 (rd o1 4 0 g) = tid 0 (rd o 4 0 g) := by
            show tid 0 (o1.1 4 0 g) = tid 0 (o.1 4 0 g)
            rw [k1]
          have hT1 := r1.1.t hg
          have ht6 := tid_0 0 (rd o 4 0 g)
          have q0 := h.1.2.2.2.2.2.1 b (by omega) (by omega)
          have w3 := reasonNot_e (h.1.t hg) (hb.1.g hg) hz.1 hz.2
          rw [c3] at w3
          obtain ⟨o2, e2, f2, T2⟩ := addPt_e hT1 hb.1 (by omega) (hb.1.g hg) hz.1 hz.2 c3
          have n2 := T2.n
          have c2' := CS.one (g := g) r1.1 hb.1.wb (r1.2.1 0 (by omega)) hg f2.ft T2 (fun x hx => measS_lo (hb.1.g hg) c3 (by omega))
          rw [et] at e2 f2 T2 n2
          have y0 := r1.1.1
          have en : gn (measS S g (S (229 + b))) g = gn (dropS S g (S (229 + b))) g + 1 := (addS_gn _ g _ _ _).2
          rw [en] at n2
          refine ⟨o2, ?_, g1.tr (f2.ft.fz ht6).gp, r1.op4 (f2.ft.fz ht6) (f2.1 4 0 (by omega)) c2'⟩
          show F_X5_measure o _ _ = _
          unfold F_X5_measure
          rw [need_y h.1 hb.1 ha c1, bx_0, bath_y o c2, bx_0, I_inB (a := (g : Int)) (by omega) (by omega) (by omega), grd_e, I_tcN (by omega), bd_e, I_inB (a := b) (by omega) (by omega) (by omega), grd_e, q0, bd_e, w3, bq_e, if_pos (show I 0 = 0 from rfl), e1, bn_e, y0, e2, bn_e, n2]
          rfl
        · obtain ⟨o1, e1, r1, g1, t1⟩ := h.chg hb
          obtain ⟨o2, e2, f2, s2⟩ := measures_e r1.1 hb.1 (by omega) (hb.1.g hg) (by omega) c2.1 (by omega) c3
          refine ⟨o2, ?_, RM.fin r1 g1 t1 f2 s2⟩
          have w1 := there_y h.1 hb.1 ha c1
          have w2 := mbath_y o c2
          have w3 := hindrance_e h.1 hb.1 (hb.1.g hg) (by omega) c2.1 (by omega)
          rw [c3] at w3
          have w4 : (I 0 ≤ I 0) = True := by decide
          unfold F_X6_measure
          simp only [I_lit, I_neg, ↓bd_e, bq_e, bn_e, i10, i00, ↓reduceIte, holds_0, holds_1, holds_2, w1, w2, w3, w4, e1, e2]
      · refine ok_look 2 2 0 rfl rfl hb (fun o h => ?_) (fun o h => ⟨I 0, ?_, fun z => absurd z (by decide)⟩)
        · have q0 := h.1.2.2.2.2.2.1 b (by omega) (by omega)
          have w3 := reasonNot_e (h.1.t hg) (hb.1.g hg) hz.1 hz.2
          show F_X5_measure o _ _ = _
          unfold F_X5_measure
          rw [need_y h.1 hb.1 ha c1, bx_0, bath_y o c2, bx_0, I_inB (a := (g : Int)) (by omega) (by omega) (by omega), grd_e, I_tcN (by omega), bd_e, I_inB (a := b) (by omega) (by omega) (by omega), grd_e, q0, bd_e, w3, bq_e, show (0 : Int32) = I 0 from rfl, if_neg (fun z => by have := I_inj (by omega) (by omega) (by omega) (by omega) z; omega)]
        · have w1 := there_y h.1 hb.1 ha c1
          have w2 := mbath_y o c2
          have w3 := hindrance_e h.1 hb.1 (hb.1.g hg) (by omega) c2.1 (by omega)
          have w4 : (I (hnd S g (S (229 + b))) ≤ I 0) = False := by
            rw [I_le (by omega) (by omega) (by omega) (by omega)]
            exact eq_false (by omega)
          unfold F_X6_measure
          simp only [I_lit, I_neg, ↓bd_e, bq_e, bn_e, i10, i00, ↓reduceIte, holds_0, holds_1, holds_2, w1, w2, w3, w4]
    · refine ok_look 3 1 0 rfl rfl hb (fun o h => ?_) (fun o h => ⟨I 0, ?_, fun z => absurd z (by decide)⟩)
      · show F_X5_measure o _ _ = _
        unfold F_X5_measure
        rw [need_y h.1 hb.1 ha c1, bx_0, bath_n o hbb c2, bx_3]
      · have w1 := there_y h.1 hb.1 ha c1
        have w2 := mbath_n o hbb c2
        unfold F_X6_measure
        simp only [I_lit, I_neg, ↓bd_e, bq_e, bn_e, i10, i00, ↓reduceIte, holds_0, holds_1, holds_2, w1, w2]
  · refine ok_look 3 1 0 rfl rfl hb (fun o h => ?_) (fun o h => ⟨I 0, ?_, fun z => absurd z (by decide)⟩)
    · show F_X5_measure o _ _ = _
      unfold F_X5_measure
      rw [need_n h.1 hb.1 ha c1, bx_3]
    · have w1 := there_n h.1 hb.1 ha c1
      unfold F_X6_measure
      simp only [I_lit, I_neg, ↓bd_e, bq_e, bn_e, i10, i00, ↓reduceIte, holds_0, holds_1, holds_2, w1]
theorem ok_forget (hb : RB S q Y) (hY : Y ≤ 700000) {a z : Int} (ha : R32 a) (hz : R32 z) : OK2 [3, 1] (fun o => F_X5_forget o (I a) (I z)) (fun o => F_X6_forget o (I a) (I z)) S q Y := by
  have hm := hb.1.m
  by_cases c1 : 0 ≤ a ∧ a < (gm S : Int)
  · obtain ⟨g, rfl⟩ : ∃ g : Nat, a = (g : Int) := ⟨a.toNat, by omega⟩
    have hg : g < gm S := by omega
    by_cases c2 : -400 ≤ z ∧ z ≤ 1500
    · refine ok_chg (I (if ixf (pd S g) z (gn S g) = -1 then 0 else 1)) (dropS S g z) (pushQ q S) rfl rfl (hb.push.op (by omega) ((hb.1.drop hg z).mono (by omega)) (fun x h1 h2 => dropS_lo (hb.1.g hg) z (by omega))) (fun o h => ?_) (fun o h => ?_)
      · obtain ⟨o1, e1, r1, g1, -⟩ := h.push hb
        have hT1 := r1.1.t hg
        have ht6 := tid_0 0 (rd o1 4 0 g)
        obtain ⟨o2, e2, f2, T2⟩ := dropTh_e hT1 (hb.1.g hg) c2.1 c2.2
        have c2' := CS.one (g := g) r1.1 hb.1.wb (r1.2.1 0 (by omega)) hg f2.ft T2 (fun x hx => dropS_lo (hb.1.g hg) z (by omega))
        refine ⟨o2, ?_, g1.tr (f2.ft.fz ht6).gp, r1.op4 (f2.ft.fz ht6) (f2.1 4 0 (by omega)) c2'⟩
        show F_X5_forget o _ _ = _
        unfold F_X5_forget
        rw [need_y h.1 hb.1 ha c1, bx_0, deg_y o c2, bx_0, e1, bn_e, I_inB (a := (g : Int)) (by omega) (by omega) (by omega), grd_e, I_tcN (by omega), bd_e, e2, bn_e]
        by_cases c : ixf (pd S g) z (gn S g) = -1
        · rw [if_pos c]; rfl
        · rw [if_neg c]; rfl
      · obtain ⟨o1, e1, r1, g1, t1⟩ := h.chg hb
        obtain ⟨o2, e2, f2, s2⟩ := drops_e r1.1 (hb.1.g hg) (by omega) c2.1 c2.2
        refine ⟨o2, ?_, RM.fin r1 g1 t1 f2 s2⟩
        have w1 := there_y h.1 hb.1 ha c1
        have w2 := mdeg_y o c2
        unfold F_X6_forget
        simp only [I_lit, I_neg, ↓bd_e, bq_e, bn_e, i10, i00, ↓reduceIte, holds_0, w1, w2, e1, e2]
    · refine ok_look 1 2 0 rfl rfl hb (fun o h => ?_) (fun o h => ⟨I 0, ?_, fun z => absurd z (by decide)⟩)
      · show F_X5_forget o _ _ = _
        unfold F_X5_forget
        rw [need_y h.1 hb.1 ha c1, bx_0, deg_n o hz c2, bx_1]
      · have w1 := there_y h.1 hb.1 ha c1
        have w2 := mdeg_n o hz c2
        unfold F_X6_forget
        simp only [I_lit, I_neg, ↓bd_e, bq_e, bn_e, i10, i00, ↓reduceIte, holds_0, holds_1, holds_2, w1, w2]
  · refine ok_look 3 1 0 rfl rfl hb (fun o h => ?_) (fun o h => ⟨I 0, ?_, fun z => absurd z (by decide)⟩)
    · show F_X5_forget o _ _ = _
      unfold F_X5_forget
      rw [need_n h.1 hb.1 ha c1, bx_3]
    · have w1 := there_n h.1 hb.1 ha c1
      unfold F_X6_forget
      simp only [I_lit, I_neg, ↓bd_e, bq_e, bn_e, i10, i00, ↓reduceIte, holds_0, holds_1, holds_2, w1]
theorem ok_paper (hb : RB S q Y) (hY : Y ≤ 700000) {a : Int} (ha : R32 a) : OK2 [3, 2] (fun o => F_X5_paper o (I a)) (fun o => F_X6_paper o (I a)) S q Y := by
  have hm := hb.1.m
  by_cases c1 : 0 ≤ a ∧ a < (gm S : Int)
  · obtain ⟨g, rfl⟩ : ∃ g : Nat, a = (g : Int) := ⟨a.toNat, by omega⟩
    have hg : g < gm S := by omega
    have hr := ref_rg S g
    by_cases c3 : ref S g = 0
    · refine ok_chg (I (S 234 + 1)) (sealS S g) (pushQ q S) rfl rfl (hb.push.op (by omega) ((hb.1.seal hg).mono (by omega)) (fun x h1 h2 => sealS_hi (by omega) (by omega))) (fun o h => ?_) (fun o h => ?_)
      · obtain ⟨o1, e1, r1, g1, k1, k5⟩ := h.push hb
        have et : tid 0 (rd o1 4 0 g) = tid 0 (rd o 4 0 g) := by
          show tid 0 (o1.1 4 0 g) = tid 0 (o.1 4 0 g)
          rw [k1]
        have w3 := reasonForNoPaper_e h.1 hb.1 (by omega) hg (h.1.t hg)
        rw [c3] at w3
        obtain ⟨o2, e2, f2, k2, v2, c2⟩ := giveSeal_e r1.1 hb.1 (r1.2.1 0 (by omega)) hg
        rw [et] at e2 v2
        refine ⟨o2, ?_, g1.tr f2.gp, r1.op4 f2 k2 c2⟩
        show F_X5_paper o _ = _
        unfold F_X5_paper
        rw [need_y h.1 hb.1 ha c1, bx_0, I_inB (a := (g : Int)) (by omega) (by omega) (by omega), grd_e, I_tcN (by omega), bd_e, w3, bq_e, if_pos (show I 0 = 0 from rfl), e1, bn_e, e2, bn_e, v2]
      · obtain ⟨o1, e1, r1, g1, t1⟩ := h.chg hb
        obtain ⟨o2, e2, f2, s2⟩ := mseals_e r1.1 (show g < 6 by omega)
        refine ⟨o2, ?_, RM.fin r1 g1 t1 f2 s2⟩
        have w1 := there_y h.1 hb.1 ha c1
        have w3 := refusal_e h.1 hb.1 (by omega) hg
        rw [c3] at w3
        have w4 : (I 0 ≤ I 0) = True := by decide
        unfold F_X6_paper
        simp only [I_lit, I_neg, ↓bd_e, bq_e, bn_e, i10, i00, ↓reduceIte, holds_0, holds_1, holds_2, w1, w3, w4, e1, e2]
    · refine ok_look 2 2 0 rfl rfl hb (fun o h => ?_) (fun o h => ⟨I 0, ?_, fun z => absurd z (by decide)⟩)
      · have w3 := reasonForNoPaper_e h.1 hb.1 (by omega) hg (h.1.t hg)
        show F_X5_paper o _ = _
        unfold F_X5_paper
        rw [need_y h.1 hb.1 ha c1, bx_0, I_inB (a := (g : Int)) (by omega) (by omega) (by omega), grd_e, I_tcN (by omega), bd_e, w3, bq_e, show (0 : Int32) = I 0 from rfl, if_neg (fun z => by have := I_inj (by omega) (by omega) (by omega) (by omega) z; omega)]
      · have w1 := there_y h.1 hb.1 ha c1
        have w3 := refusal_e h.1 hb.1 (by omega) hg
        have w4 : (I (ref S g) ≤ I 0) = False := by
          rw [I_le (by omega) (by omega) (by omega) (by omega)]
          exact eq_false (by omega)
        unfold F_X6_paper
        simp only [I_lit, I_neg, ↓bd_e, bq_e, bn_e, i10, i00, ↓reduceIte, holds_0, holds_1, holds_2, w1, w3, w4]
  · refine ok_look 3 1 0 rfl rfl hb (fun o h => ?_) (fun o h => ⟨I 0, ?_, fun z => absurd z (by decide)⟩)
    · show F_X5_paper o _ = _
      unfold F_X5_paper
      rw [need_n h.1 hb.1 ha c1, bx_3]
    · have w1 := there_n h.1 hb.1 ha c1
      unfold F_X6_paper
      simp only [I_lit, I_neg, ↓bd_e, bq_e, bn_e, i10, i00, ↓reduceIte, holds_0, holds_1, holds_2, w1]
theorem ok_append (hb : RB S q Y) (hY : Y ≤ 700000) {a : Int} (ha : R32 a) : OK2 [1, 2] (fun o => F_X5_append o (I a)) (fun o => F_X6_append o (I a)) S q Y := by
  obtain ⟨B1, B2, B3, B4, B5, B6, B7, B8⟩ := hb
  obtain ⟨qs, qk, L, B⟩ := q
  dsimp only at B2 B3 B4 B5 B6 B7
  have hb : RB S (qs, qk, L, B) Y := ⟨B1, B2, B3, B4, B5, B6, B7, B8⟩
  by_cases c1 : 33 ≤ a ∧ a ≤ 126
  · by_cases c2 : L < 60
    · have hL : inB (I (L : Int)) 60 = true := I_inB (by omega) (by omega) (by omega)
      have ce : vp_nar .char (((I a).toUInt32 % 65536).toInt32) = I a := by
        have := char_e a.toNat (by omega)
        rw [show ((a.toNat : Nat) : Int) = a from by omega] at this
        exact this
      refine ok_chg (I ((L : Int) + 1)) S (qs, qk, L + 1, fun k => if k = L then a else B k) rfl rfl ⟨B1.mono (by omega), fun i hi => (B2 i hi).mono (by omega), B3, B4, fun z => (B5 z).mono (by omega), by show L + 1 ≤ 60; omega, fun k hk => ?_, B8⟩ (fun o h => ?_) (fun o h => ?_)
      · show 33 ≤ (if k = L then a else B k) ∧ (if k = L then a else B k) ≤ 126
        have hk : k < L + 1 := hk
        split
        · omega
        · exact B7 k (by omega)
      · obtain ⟨h1, h2, h3, h4, h5, h6⟩ := h
        have q0 : rd o 16 0 0 = I (L : Int) := h6.1
        obtain ⟨p, hp⟩ : ∃ p, p = wr (wr o 17 0 L (I a)) 16 0 0 (I ((L : Int) + 1)) := ⟨_, rfl⟩
        have fr : ∀ k i, k ≠ 16 → k ≠ 17 → p.1 k i = o.1 k i := fun k i x y => by rw [hp, wr_ne _ _ (by omega), wr_ne _ _ (by omega)]
        have p0 : rd p 16 0 0 = I ((L : Int) + 1) := by rw [hp, rd_wr]
        obtain ⟨b, h3⟩ := h3
        refine ⟨p, ?_, by rw [hp]; exact ((Gp.rf o).wr (by omega)).wr (by omega), h1.fr (fun k a c => fr k _ (by omega) (by omega)) (fun k t a c d => fr k _ (by omega) (by omega)), fun j hj => (h2 j hj).c (fr 4 j (by omega) (by omega)), ⟨b, h3.fr (fr 14 0 (by omega) (by omega)) (fun k i a c d => fr k _ (by omega) (by omega)) (fun k t a c d => fr k _ (by omega) (by omega))⟩, (congrFun (fr 0 0 (by omega) (by omega)) 4).trans h4, fun hq => (h5 hq).fr (fun k a c => fr k _ (by omega) (by omega)) (fun k t a c d => fr k _ (by omega) (by omega)), p0, fun k hk => ?_⟩
        · have w1 := wi_y o ha (b := 33) (c := 126) (by omega) (by omega) c1
          have l1 : (I (L : Int) < I 60) = True := by rw [I_lt (by omega) (by omega) (by omega) (by omega)]; exact eq_true (by omega)
          have l2 : (I 60 ≤ I (L : Int)) = False := by rw [I_le (by omega) (by omega) (by omega) (by omega)]; exact eq_false (by omega)
          have q1 : rd (wr o 17 0 L (I a)) 16 0 0 = I (L : Int) := by rw [rd_wk _ _ (by omega)]; exact q0
          show F_X5_append o _ = _
          unfold F_X5_append F_X4_addSign
          rw [show (33 : Int32) = I 33 from rfl, show (126 : Int32) = I 126 from rfl, w1, bq_e, if_neg (by decide), q0, show (60 : Int32) = I 60 from rfl, if_pos (by rw [l1]; trivial), bd_e, if_neg (by rw [l2]; exact not_false), hL, grd_e, I_tcN (by omega), ce, bd_e, q1, show (1 : Int32) = I 1 from rfl, I_add, bd_e, ← hp, bn_e, p0]
        · have hk : k < L + 1 := hk
          show rd p 17 0 k = I (if k = L then a else B k)
          rw [hp, rd_wk _ _ (by omega)]
          by_cases e : k = L
          · rw [if_pos e, e, rd_wr]
          · rw [if_neg e, rd_wj _ _ e]
            exact h6.2 k (by show k < L; omega)
      · obtain ⟨m1, m2, m3, m4, m5⟩ := h
        have q0 : rd o 19 0 7 = I (L : Int) := m5.1
        obtain ⟨o1, ho1⟩ : ∃ o1, o1 = wr o 19 0 0 (I 0) := ⟨_, rfl⟩
        obtain ⟨p, hp⟩ : ∃ p, p = wr (wr o1 23 0 L (I a)) 19 0 7 (I ((L : Int) + 1)) := ⟨_, rfl⟩
        have fr : ∀ k i, k ≠ 19 → k ≠ 23 → p.1 k i = o.1 k i := fun k i x y => by rw [hp, wr_ne _ _ (by omega), wr_ne _ _ (by omega), ho1, wr_ne _ _ (by omega)]
        have f19 : ∀ j, j ≠ 0 → j ≠ 7 → rd p 19 0 j = rd o 19 0 j := fun j x y => by rw [hp, rd_wj _ _ (by omega), rd_wk _ _ (by omega), ho1, rd_wj _ _ (by omega)]
        have p7 : rd p 19 0 7 = I ((L : Int) + 1) := by rw [hp, rd_wr]
        refine ⟨p, ?_, by rw [hp, ho1]; exact (((Gm.rf o).wr (by omega)).wr (by omega)).wr (by omega), ⟨m1.fr (fr 20 0 (by omega) (by omega)), m2.c (f19 3 (by omega) (by omega)) (fr 21 0 (by omega) (by omega)), (f19 5 (by omega) (by omega)).trans m3, fun hq => (m4 hq).c (fr 22 0 (by omega) (by omega)), p7, fun k hk => ?_⟩, by rw [hp, rd_wj _ _ (by omega), rd_wk _ _ (by omega), ho1, rd_wr]⟩
        · have w1 := in_y o ha (b := 33) (c := 126) (by omega) (by omega) c1
          have l2 : (I (L : Int) = I 60) = False := eq_false (fun z => by have := I_inj (by omega) (by omega) (by omega) (by omega) z; omega)
          have q1 : rd o1 19 0 7 = I (L : Int) := by rw [ho1, rd_wj _ _ (by omega)]; exact q0
          have q2 : rd (wr o1 23 0 L (I a)) 19 0 7 = I (L : Int) := by rw [rd_wk _ _ (by omega)]; exact q1
          unfold F_X6_append
          rw [show (33 : Int32) = I 33 from rfl, show (126 : Int32) = I 126 from rfl, w1, bq_e, bd_e, if_neg (by decide), q0, show (60 : Int32) = I 60 from rfl, if_neg (by rw [l2]; exact not_false), show (0 : Int32) = I 0 from rfl]
          dsimp only
          rw [holds_0, bn_e, if_neg (by decide), ← ho1, q1, hL, grd_e, I_tcN (by omega), bd_e, q2, show (1 : Int32) = I 1 from rfl, I_add, bd_e, ← hp, p7]
        · have hk : k < L + 1 := hk
          show rd p 23 0 k = I (if k = L then a else B k)
          rw [hp, rd_wk _ _ (by omega)]
          by_cases e : k = L
          · rw [if_pos e, e, rd_wr]
          · rw [if_neg e, rd_wj _ _ e, ho1, rd_wk _ _ (by omega)]
            exact m5.2 k (by show k < L; omega)
    · have hL : L = 60 := by have : L ≤ 60 := B6; omega
      refine ok_look 2 2 0 rfl rfl hb (fun o h => ?_) (fun o h => ⟨I 0, ?_, fun z => absurd z (by decide)⟩)
      · obtain ⟨h1, h2, h3, h4, h5, h6⟩ := h
        have q0 : rd o 16 0 0 = I (L : Int) := h6.1
        rw [hL] at q0
        have w1 := wi_y o ha (b := 33) (c := 126) (by omega) (by omega) c1
        show F_X5_append o _ = _
        unfold F_X5_append
        rw [show (33 : Int32) = I 33 from rfl, show (126 : Int32) = I 126 from rfl, w1, bq_e, if_neg (by decide), q0, show (60 : Int32) = I 60 from rfl, if_neg (by decide)]
      · obtain ⟨m1, m2, m3, m4, m5⟩ := h
        have q0 : rd o 19 0 7 = I (L : Int) := m5.1
        rw [hL] at q0
        have w1 := in_y o ha (b := 33) (c := 126) (by omega) (by omega) c1
        unfold F_X6_append
        rw [show (33 : Int32) = I 33 from rfl, show (126 : Int32) = I 126 from rfl, w1, bq_e, bd_e, if_neg (by decide), q0, show (60 : Int32) = I 60 from rfl, if_pos (by decide), show (2 : Int32) = I 2 from rfl, show (0 : Int32) = I 0 from rfl]
        dsimp only
        rw [holds_2, bn_e, if_pos rfl]
  · refine ok_look 1 1 0 rfl rfl hb (fun o h => ?_) (fun o h => ⟨I 0, ?_, fun z => absurd z (by decide)⟩)
    · have w1 := wi_n o ha (b := 33) (c := 126) (by omega) (by omega) c1
      show F_X5_append o _ = _
      unfold F_X5_append
      simp only [I_lit, I_neg, ↓bd_e, bq_e, bn_e, i10, i00, ↓reduceIte, holds_0, holds_1, holds_2, w1]
    · have w1 := in_n o ha (b := 33) (c := 126) (by omega) (by omega) c1
      unfold F_X6_append
      simp only [I_lit, I_neg, ↓bd_e, bq_e, bn_e, i10, i00, ↓reduceIte, holds_0, holds_1, holds_2, w1]
end
