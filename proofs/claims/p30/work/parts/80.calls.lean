/-! changes as they are called: one row of numbers tells what any object that holds it does -/
abbrev R32 (a : Int) : Prop := -2147483648 ≤ a ∧ a < 2147483648
theorem wi_y (o : OM) {a b c : Int} (ha : R32 a) (hb : R32 b) (hc : R32 c) (h : b ≤ a ∧ a ≤ c) : F_X5_isWithin o (I a) (I b) (I c) = some (I 1) := by rw [within_I o ha hb hc, tf_t h]
theorem wi_n (o : OM) {a b c : Int} (ha : R32 a) (hb : R32 b) (hc : R32 c) (h : ¬ (b ≤ a ∧ a ≤ c)) : F_X5_isWithin o (I a) (I b) (I c) = some (I 0) := by rw [within_I o ha hb hc, tf_f h]
def nxQ (q : Qt) (S : Int → Int) (c : Nat) : Qt := if c = 0 then pushQ q S else q
def CHG (P : OM → Option ((Nat × Int32) × OM)) (S S' : Int → Int) (c : Nat) (r : Int) (Y : Nat) : Prop :=
  ∀ o q, RP o S q → RB S q Y → ∃ o1, P o = some ((c, I r), o1) ∧ Gp o o1 ∧ RP o1 S' (nxQ q S c) ∧ RB S' (nxQ q S c) (Y + 1200)
theorem chg_n {P : OM → Option ((Nat × Int32) × OM)} {S : Int → Int} {Y : Nat} (c : Nat) (hc : c ≠ 0) (h : ∀ o q, RP o S q → RB S q Y → P o = some ((c, I 0), o)) : CHG P S S c 0 Y := fun o q hP hb => by
  unfold nxQ
  rw [if_neg hc]
  exact ⟨o, h o q hP hb, Gp.rf o, hP, hb.mono (by omega)⟩
theorem chg_y {P : OM → Option ((Nat × Int32) × OM)} {S S' : Int → Int} {Y : Nat} (r : Int) (hS : SB S' (Y + 1200)) (e : ∀ a : Int, 242 ≤ a → a < 246 → S' a = S a) (h : ∀ o q, RP o S q → RB S q Y → ∃ o1, P o = some ((0, I r), o1) ∧ Gp o o1 ∧ RP o1 S' (pushQ q S)) : CHG P S S' 0 r Y := fun o q hP hb => by
  obtain ⟨o1, e1, g1, r1⟩ := h o q hP hb
  unfold nxQ
  rw [if_pos rfl]
  exact ⟨o1, e1, g1, r1, hb.push.op (by omega) hS e⟩
/-- some outcome, the same for every object; what holds of rows goes on to hold -/
def AK (cs : List Nat) (P : OM → Option ((Nat × Int32) × OM)) (S : Int → Int) (Y : Nat) : Prop := ∃ (c : Nat) (r : Int) (S' : Int → Int), CHG P S S' c r Y ∧ INV S' ∧ okc cs c = true ∧ (c ≠ 0 → S' = S)
theorem ak_n {cs : List Nat} {P : OM → Option ((Nat × Int32) × OM)} {S : Int → Int} {Y : Nat} (c : Nat) (hc : c ≠ 0) (hI : INV S) (hk : okc cs c = true) (h : ∀ o q, RP o S q → RB S q Y → P o = some ((c, I 0), o)) : AK cs P S Y := ⟨c, 0, S, chg_n c hc h, hI, hk, fun _ => rfl⟩
section
variable {S : Int → Int} {g Y : Nat}
theorem k_make (hB : SB S Y) (hY : Y ≤ 700000) (hI : INV S) {a b c : Int} (ha : R32 a) (hbb : R32 b) (hc : R32 c) : AK [1, 2] (fun o => F_X5_make o (I a) (I b) (I c)) S Y := by
  have hm := hB.m
  by_cases c1 : -50 ≤ a ∧ a ≤ 50
  · by_cases c2 : -50 ≤ b ∧ b ≤ 50
    · by_cases c3 : 0 ≤ c ∧ c ≤ 3
      · by_cases c4 : gm S < 6
        · refine ⟨0, (gm S : Int), makeS S a b c, chg_y _ ((hB.make c4 c1 c2 c3).mono (by omega)) (fun x h1 h2 => makeS_lo _ _ _ _ (by omega) (by omega)) (fun o q h hb => ?_), hI.make hB c4, rfl, fun z => absurd rfl z⟩
          obtain ⟨o1, e1, r1, g1, -⟩ := h.push hb
          obtain ⟨o2, e2, f2, k4, c2'⟩ := addTh_e r1.1 hb.1 (r1.2.1 0 (by omega)) c4 a b c
          have q2 := c2'.2.2.1
          rw [(makeS_gm S a b c hm.1).1] at q2
          refine ⟨o2, ?_, g1.tr f2.gp, r1.op4 f2 k4 c2'⟩
          have w1 := wi_y o ha (b := -50) (c := 50) (by omega) (by omega) c1
          have w2 := wi_y o hbb (b := -50) (c := 50) (by omega) (by omega) c2
          have w3 := wi_y o hc (b := 0) (c := 3) (by omega) (by omega) c3
          have w4 := hasRoom_e h.1 hb.1
          rw [tf_t c4] at w4
          show F_X5_make o _ _ _ = _
          unfold F_X5_make
          simp only [I_lit, I_neg, ↓bd_e, bq_e, bn_e, i10, i00, ↓reduceIte, w1, w2, w3, w4, e1, e2, q2, I_sub]
          rw [show (gm S : Int) + 1 - 1 = (gm S : Int) from by omega]
        · refine ak_n 2 (by omega) hI rfl (fun o q h hb => ?_)
          have w1 := wi_y o ha (b := -50) (c := 50) (by omega) (by omega) c1
          have w2 := wi_y o hbb (b := -50) (c := 50) (by omega) (by omega) c2
          have w3 := wi_y o hc (b := 0) (c := 3) (by omega) (by omega) c3
          have w4 := hasRoom_e h.1 hb.1
          rw [tf_f c4] at w4
          show F_X5_make o _ _ _ = _
          unfold F_X5_make
          simp only [I_lit, I_neg, ↓bd_e, bq_e, bn_e, i10, i00, ↓reduceIte, w1, w2, w3, w4]
      · refine ak_n 1 (by omega) hI rfl (fun o q h hb => ?_)
        have e1 := wi_y o ha (b := -50) (c := 50) (by omega) (by omega) c1
        have e2 := wi_y o hbb (b := -50) (c := 50) (by omega) (by omega) c2
        have e3 := wi_n o hc (b := 0) (c := 3) (by omega) (by omega) c3
        show F_X5_make o _ _ _ = _
        unfold F_X5_make
        simp only [I_lit, I_neg, ↓bd_e, bq_e, bn_e, i10, i00, ↓reduceIte, e1, e2, e3]
    · refine ak_n 1 (by omega) hI rfl (fun o q h hb => ?_)
      have e1 := wi_y o ha (b := -50) (c := 50) (by omega) (by omega) c1
      have e2 := wi_n o hbb (b := -50) (c := 50) (by omega) (by omega) c2
      show F_X5_make o _ _ _ = _
      unfold F_X5_make
      simp only [I_lit, I_neg, ↓bd_e, bq_e, bn_e, i10, i00, ↓reduceIte, e1, e2]
  · refine ak_n 1 (by omega) hI rfl (fun o q h hb => ?_)
    have e1 := wi_n o ha (b := -50) (c := 50) (by omega) (by omega) c1
    show F_X5_make o _ _ _ = _
    unfold F_X5_make
    simp only [I_lit, I_neg, ↓bd_e, bq_e, bn_e, i10, i00, ↓reduceIte, e1]
theorem k_breakOne (hB : SB S Y) (hY : Y ≤ 700000) (hI : INV S) {a : Int} (ha : R32 a) : AK [3, 1, 2] (fun o => F_X5_breakOne o (I a)) S Y := by
  have hm := hB.m
  by_cases c1 : 0 ≤ a ∧ a < (gm S : Int)
  · obtain ⟨g, rfl⟩ : ∃ g : Nat, a = (g : Int) := ⟨a.toNat, by omega⟩
    have hg : g < gm S := by omega
    refine ⟨0, (gn S g : Int), brkS S g, chg_y _ ((hB.brk hg).mono (by omega)) (fun x h1 h2 => brkS_hi _ _ (by omega) (by omega)) (fun o q h hb => ?_), hI.brk hB hg, rfl, fun z => absurd rfl z⟩
    obtain ⟨o1, e1, r1, g1, -⟩ := h.push hb
    obtain ⟨o2, e2, f2, p2, c2⟩ := removeTh_e r1.1 hb.1 (r1.2.1 0 (by omega)) hg
    refine ⟨o2, ?_, g1.tr f2.gp, r1.op f2 p2 c2⟩
    have hn := (h.1.t hg).n
    show F_X5_breakOne o _ = _
    unfold F_X5_breakOne
    rw [need_y h.1 hb.1 ha c1, bx_0, I_inB (a := (g : Int)) (by omega) (by omega) (by omega), grd_e, I_tcN (by omega), bd_e, hn, bd_e, e1, bn_e, e2, bn_e]
  · refine ak_n 3 (by omega) hI rfl (fun o q h hb => ?_)
    show F_X5_breakOne o _ = _
    unfold F_X5_breakOne
    rw [need_n h.1 hb.1 ha c1, bx_3]
    rfl
theorem k_bath (hB : SB S Y) (hY : Y ≤ 700000) (hI : INV S) {a z : Int} (ha : R32 a) (hz : R32 z) : AK [3, 1, 2] (fun o => F_X5_bath o (I a) (I z)) S Y := by
  have hm := hB.m
  by_cases c1 : 0 ≤ a ∧ a ≤ 3
  · by_cases c2 : -400 ≤ z ∧ z ≤ 1500
    · refine ⟨0, S (229 + a) + 10000, upI S (229 + a) z, chg_y _ (hB.up (by omega) (Or.inl (by omega))) (fun x h1 h2 => upI_n _ _ (by omega)) (fun o q h hb => ?_), hI.up hB (by omega) (by omega) (by omega), rfl, fun z => absurd rfl z⟩
      obtain ⟨o1, e1, r1, g1, -⟩ := h.push hb
      have qa := h.1.2.2.2.2.2.1 a (by omega) (by omega)
      refine ⟨wr o1 2 0 (I a).toNatClampNeg (I z), ?_, g1.wr (by omega), r1.op4 ((Fz.rf o1).wr (by omega)) (wr_ne _ _ (by omega)) (r1.1.s2 hb.1.wb (by omega) (by omega) z)⟩
      show F_X5_bath o _ _ = _
      unfold F_X5_bath
      rw [bath_y o c1, bx_0, deg_y o c2, bx_0, I_inB (a := a) (by omega) (by omega) (by omega), grd_e, qa, bd_e, e1, bn_e, grd_e, bd_e, show (10000 : Int32) = I 10000 from rfl, I_add]
    · refine ak_n 1 (by omega) hI rfl (fun o q h hb => ?_)
      show F_X5_bath o _ _ = _
      unfold F_X5_bath
      rw [bath_y o c1, bx_0, deg_n o hz c2, bx_1]
      rfl
  · refine ak_n 3 (by omega) hI rfl (fun o q h hb => ?_)
    show F_X5_bath o _ _ = _
    unfold F_X5_bath
    rw [bath_n o ha c1, bx_3]
    rfl
theorem c_pass (hB : SB S Y) (hY : Y ≤ 700000) {n : Nat} (h1 : 1 ≤ n) (h2 : n ≤ 20) : CHG (fun o => F_X5_pass o (I (n : Int))) S (passS S n) 0 (S 233 + (n : Int)) Y := by
  obtain ⟨B, -, e3⟩ := hB.pass n
  refine chg_y _ (B.mono (by omega)) (fun x h1 h2 => passS_hi hB (by omega) n) (fun o q h hb => ?_)
  obtain ⟨o1, e1, r1, g1, -⟩ := h.push hb
  obtain ⟨o2, e2, f2, k4, c2⟩ := letPass_e r1.1 hb.1 (r1.2.1 0 (by omega)) (n := n) (by omega) (by omega)
  refine ⟨o2, ?_, g1.tr f2.gp, r1.op4 f2 k4 c2⟩
  have w1 := wi_y o (a := (n : Int)) (by omega) (b := 1) (c := 20) (by omega) (by omega) (by omega)
  have q0 := c2.1
  rw [e3] at q0
  show F_X5_pass o _ = _
  unfold F_X5_pass
  simp only [I_lit, I_neg, ↓bd_e, bq_e, bn_e, i10, i00, ↓reduceIte, w1, e1, e2, q0]
theorem k_pass (hB : SB S Y) (hY : Y ≤ 700000) (hI : INV S) {a : Int} (ha : R32 a) : AK [3, 1, 2] (fun o => F_X5_pass o (I a)) S Y := by
  by_cases c1 : 1 ≤ a ∧ a ≤ 20
  · obtain ⟨n, rfl⟩ : ∃ g : Nat, a = (g : Int) := ⟨a.toNat, by omega⟩
    exact ⟨0, _, _, c_pass hB hY (by omega) (by omega), hI.pass hB n, rfl, fun z => absurd rfl z⟩
  · refine ak_n 1 (by omega) hI rfl (fun o q h hb => ?_)
    have w1 := wi_n o ha (b := 1) (c := 20) (by omega) (by omega) c1
    show F_X5_pass o _ = _
    unfold F_X5_pass
    simp only [I_lit, I_neg, ↓bd_e, bq_e, bn_e, i10, i00, ↓reduceIte, w1]
theorem lim_e : ∀ n : Nat, n < 7 → fSL n = I (lim (n : Int)) := by decide +kernel
theorem lim_rg (k : Int) : 0 ≤ lim k ∧ lim k ≤ 100 := by
  unfold lim
  split
  · omega
  · split <;> omega
theorem k_set (hB : SB S Y) (hY : Y ≤ 700000) (hI : INV S) {a v : Int} (ha : R32 a) (hv : R32 v) : AK [3, 1, 2] (fun o => F_X5_set o (I a) (I v)) S Y := by
  by_cases c1 : 0 ≤ a ∧ a ≤ 6
  · have hl := lim_rg a
    have fs : fSL (I a).toNatClampNeg = I (lim a) := by
      rw [I_tc c1.1 (by omega), lim_e _ (by omega), show ((a.toNat : Nat) : Int) = a from by omega]
    have wa := fun o => wi_y o ha (b := 0) (c := 6) (by omega) (by omega) c1
    have hi : inB (I a) 7 = true := I_inB (by omega) (by omega) (by omega)
    by_cases c2 : 0 ≤ v ∧ v ≤ lim a
    · refine ⟨0, S (235 + a), upI S (235 + a) v, chg_y _ (hB.up (by omega) (Or.inr (Or.inr (Or.inl ⟨by omega, by omega, c2.1, by rw [show 235 + a - 235 = a from by omega]; exact c2.2⟩)))) (fun x h1 h2 => upI_n _ _ (by omega)) (fun o q h hb => ?_), hI.up hB (by omega) (by omega) (by omega), rfl, fun z => absurd rfl z⟩
      obtain ⟨o1, e1, r1, g1, -⟩ := h.push hb
      have qa := h.1.2.2.2.2.2.2.1 a (by omega) (by omega)
      have w1 := wa o
      have w2 := wi_y o hv (b := 0) (c := lim a) (by omega) (by omega) c2
      refine ⟨wr o1 3 0 (I a).toNatClampNeg (I v), ?_, g1.wr (by omega), r1.op4 ((Fz.rf o1).wr (by omega)) (wr_ne _ _ (by omega)) (r1.1.s3 hb.1.wb (by omega) (by omega) v)⟩
      show F_X5_set o _ _ = _
      unfold F_X5_set
      simp only [I_lit, I_neg, ↓bd_e, bq_e, bn_e, i10, i00, ↓reduceIte, w1, fs, w2, hi, grd_e, qa, e1]
    · refine ak_n 1 (by omega) hI rfl (fun o q h hb => ?_)
      have w1 := wa o
      have w2 := wi_n o hv (b := 0) (c := lim a) (by omega) (by omega) c2
      show F_X5_set o _ _ = _
      unfold F_X5_set
      simp only [I_lit, I_neg, ↓bd_e, bq_e, bn_e, i10, i00, ↓reduceIte, w1, fs, w2, hi, grd_e]
  · refine ak_n 3 (by omega) hI rfl (fun o q h hb => ?_)
    have w1 := wi_n o ha (b := 0) (c := 6) (by omega) (by omega) c1
    show F_X5_set o _ _ = _
    unfold F_X5_set
    simp only [I_lit, I_neg, ↓bd_e, bq_e, bn_e, i10, i00, ↓reduceIte, w1]
theorem k_measure (hB : SB S Y) (hY : Y ≤ 700000) (hI : INV S) {a b : Int} (ha : R32 a) (hbb : R32 b) : AK [3, 1, 2] (fun o => F_X5_measure o (I a) (I b)) S Y := by
  have hm := hB.m
  by_cases c1 : 0 ≤ a ∧ a < (gm S : Int)
  · obtain ⟨g, rfl⟩ : ∃ g : Nat, a = (g : Int) := ⟨a.toNat, by omega⟩
    have hg : g < gm S := by omega
    by_cases c2 : 0 ≤ b ∧ b ≤ 3
    · have hz := hB.2.1 b (by omega) (by omega)
      have hr := hnd_rg S g (S (229 + b))
      by_cases c3 : hnd S g (S (229 + b)) = 0
      · refine ⟨0, (gn (dropS S g (S (229 + b))) g : Int) + 1, measS S g (S (229 + b)), chg_y _ ((hB.meas (by omega) hg hz.1 hz.2 c3).mono (by omega)) (fun x h1 h2 => measS_lo (hB.g hg) c3 (by omega)) (fun o q h hb => ?_), hI.meas hB hg hz.1 hz.2 c3, rfl, fun z => absurd rfl z⟩
        obtain ⟨o1, e1, r1, g1, k1, k5⟩ := h.push hb
        have et : tid 0 (rd o1 4 0 g) = tid 0 (rd o 4 0 g) := by
          show tid 0 (o1.1 4 0 g) = tid 0 (o.1 4 0 g)
          rw [k1]
        have hT1 := r1.1.t hg
        have ht6 := tid_0 0 (rd o 4 0 g)
        have q0 := h.1.2.2.2.2.2.1 b (by omega) (by omega)
        have w3 := reasonNot_e (h.1.t hg) (hb.1.g hg) hz.1 hz.2
        rw [c3] at w3
        obtain ⟨o2, e2, f2, T2⟩ := addPt_e hT1 hb.1 (by omega) (hb.1.g hg) hz.1 hz.2 c3
        have n2 := T2.n
        have c2' := CS.one (g := g) r1.1 hb.1.wb (r1.2.1 0 (by omega)) hg f2.ft T2 (fun x hx => measS_lo (hb.1.g hg) c3 (by omega))
        rw [et] at e2 f2 T2 n2
        have y0 := r1.1.1
        have en : gn (measS S g (S (229 + b))) g = gn (dropS S g (S (229 + b))) g + 1 := (addS_gn _ g _ _ _).2
        rw [en] at n2
        refine ⟨o2, ?_, g1.tr (f2.ft.fz ht6).gp, r1.op4 (f2.ft.fz ht6) (f2.1 4 0 (by omega)) c2'⟩
        show F_X5_measure o _ _ = _
        unfold F_X5_measure
        rw [need_y h.1 hb.1 ha c1, bx_0, bath_y o c2, bx_0, I_inB (a := (g : Int)) (by omega) (by omega) (by omega), grd_e, I_tcN (by omega), bd_e, I_inB (a := b) (by omega) (by omega) (by omega), grd_e, q0, bd_e, w3, bq_e, if_pos (show I 0 = 0 from rfl), e1, bn_e, y0, e2, bn_e, n2]
        rfl
      · refine ak_n 2 (by omega) hI rfl (fun o q h hb => ?_)
        have q0 := h.1.2.2.2.2.2.1 b (by omega) (by omega)
        have w3 := reasonNot_e (h.1.t hg) (hb.1.g hg) hz.1 hz.2
        show F_X5_measure o _ _ = _
        unfold F_X5_measure
        rw [need_y h.1 hb.1 ha c1, bx_0, bath_y o c2, bx_0, I_inB (a := (g : Int)) (by omega) (by omega) (by omega), grd_e, I_tcN (by omega), bd_e, I_inB (a := b) (by omega) (by omega) (by omega), grd_e, q0, bd_e, w3, bq_e, show (0 : Int32) = I 0 from rfl, if_neg (fun z => by have := I_inj (by omega) (by omega) (by omega) (by omega) z; omega)]
    · refine ak_n 3 (by omega) hI rfl (fun o q h hb => ?_)
      show F_X5_measure o _ _ = _
      unfold F_X5_measure
      rw [need_y h.1 hb.1 ha c1, bx_0, bath_n o hbb c2, bx_3]
      rfl
  · refine ak_n 3 (by omega) hI rfl (fun o q h hb => ?_)
    show F_X5_measure o _ _ = _
    unfold F_X5_measure
    rw [need_n h.1 hb.1 ha c1, bx_3]
    rfl
theorem k_forget (hB : SB S Y) (hY : Y ≤ 700000) (hI : INV S) {a z : Int} (ha : R32 a) (hz : R32 z) : AK [3, 1, 2] (fun o => F_X5_forget o (I a) (I z)) S Y := by
  have hm := hB.m
  by_cases c1 : 0 ≤ a ∧ a < (gm S : Int)
  · obtain ⟨g, rfl⟩ : ∃ g : Nat, a = (g : Int) := ⟨a.toNat, by omega⟩
    have hg : g < gm S := by omega
    by_cases c2 : -400 ≤ z ∧ z ≤ 1500
    · refine ⟨0, (if ixf (pd S g) z (gn S g) = -1 then 0 else 1), dropS S g z, chg_y _ ((hB.drop hg z).mono (by omega)) (fun x h1 h2 => dropS_lo (hB.g hg) z (by omega)) (fun o q h hb => ?_), hI.drop hB hg z, rfl, fun z => absurd rfl z⟩
      obtain ⟨o1, e1, r1, g1, -⟩ := h.push hb
      have hT1 := r1.1.t hg
      have ht6 := tid_0 0 (rd o1 4 0 g)
      obtain ⟨o2, e2, f2, T2⟩ := dropTh_e hT1 (hb.1.g hg) c2.1 c2.2
      have c2' := CS.one (g := g) r1.1 hb.1.wb (r1.2.1 0 (by omega)) hg f2.ft T2 (fun x hx => dropS_lo (hb.1.g hg) z (by omega))
      refine ⟨o2, ?_, g1.tr (f2.ft.fz ht6).gp, r1.op4 (f2.ft.fz ht6) (f2.1 4 0 (by omega)) c2'⟩
      show F_X5_forget o _ _ = _
      unfold F_X5_forget
      rw [need_y h.1 hb.1 ha c1, bx_0, deg_y o c2, bx_0, e1, bn_e, I_inB (a := (g : Int)) (by omega) (by omega) (by omega), grd_e, I_tcN (by omega), bd_e, e2, bn_e]
      by_cases c : ixf (pd S g) z (gn S g) = -1
      · rw [if_pos c]; rfl
      · rw [if_neg c]; rfl
    · refine ak_n 1 (by omega) hI rfl (fun o q h hb => ?_)
      show F_X5_forget o _ _ = _
      unfold F_X5_forget
      rw [need_y h.1 hb.1 ha c1, bx_0, deg_n o hz c2, bx_1]
      rfl
  · refine ak_n 3 (by omega) hI rfl (fun o q h hb => ?_)
    show F_X5_forget o _ _ = _
    unfold F_X5_forget
    rw [need_n h.1 hb.1 ha c1, bx_3]
    rfl
theorem c_paper_y (hB : SB S Y) (hY : Y ≤ 700000) (hg : g < gm S) (c3 : ref S g = 0) : CHG (fun o => F_X5_paper o (I (g : Int))) S (sealS S g) 0 (S 234 + 1) Y := by
  have hm := hB.m
  refine chg_y _ ((hB.seal hg).mono (by omega)) (fun x h1 h2 => sealS_hi (by omega) (by omega)) (fun o q h hb => ?_)
  obtain ⟨o1, e1, r1, g1, k1, k5⟩ := h.push hb
  have et : tid 0 (rd o1 4 0 g) = tid 0 (rd o 4 0 g) := by
    show tid 0 (o1.1 4 0 g) = tid 0 (o.1 4 0 g)
    rw [k1]
  have w3 := reasonForNoPaper_e h.1 hb.1 (by omega) hg (h.1.t hg)
  rw [c3] at w3
  obtain ⟨o2, e2, f2, k2, v2, c2⟩ := giveSeal_e r1.1 hb.1 (r1.2.1 0 (by omega)) hg
  rw [et] at e2 v2
  refine ⟨o2, ?_, g1.tr f2.gp, r1.op4 f2 k2 c2⟩
  show F_X5_paper o _ = _
  unfold F_X5_paper
  rw [need_y h.1 hb.1 (by omega) (by omega), bx_0, I_inB (a := (g : Int)) (by omega) (by omega) (by omega), grd_e, I_tcN (by omega), bd_e, w3, bq_e, if_pos (show I 0 = 0 from rfl), e1, bn_e, e2, bn_e, v2]
theorem c_paper_n (hB : SB S Y) (hY : Y ≤ 700000) (hg : g < gm S) (c3 : ref S g ≠ 0) : CHG (fun o => F_X5_paper o (I (g : Int))) S S 2 0 Y := by
  have hm := hB.m
  have hr := ref_rg S g
  refine chg_n 2 (by omega) (fun o q h hb => ?_)
  have w3 := reasonForNoPaper_e h.1 hb.1 (by omega) hg (h.1.t hg)
  show F_X5_paper o _ = _
  unfold F_X5_paper
  rw [need_y h.1 hb.1 (by omega) (by omega), bx_0, I_inB (a := (g : Int)) (by omega) (by omega) (by omega), grd_e, I_tcN (by omega), bd_e, w3, bq_e, show (0 : Int32) = I 0 from rfl, if_neg (fun z => by have := I_inj (by omega) (by omega) (by omega) (by omega) z; omega)]
theorem k_paper (hB : SB S Y) (hY : Y ≤ 700000) (hI : INV S) {a : Int} (ha : R32 a) : AK [3, 1, 2] (fun o => F_X5_paper o (I a)) S Y := by
  have hm := hB.m
  by_cases c1 : 0 ≤ a ∧ a < (gm S : Int)
  · obtain ⟨g, rfl⟩ : ∃ g : Nat, a = (g : Int) := ⟨a.toNat, by omega⟩
    have hg : g < gm S := by omega
    by_cases c3 : ref S g = 0
    · exact ⟨0, _, _, c_paper_y hB hY hg c3, hI.seal hB hg, rfl, fun z => absurd rfl z⟩
    · exact ⟨2, _, _, c_paper_n hB hY hg c3, hI, rfl, fun _ => rfl⟩
  · refine ak_n 3 (by omega) hI rfl (fun o q h hb => ?_)
    show F_X5_paper o _ = _
    unfold F_X5_paper
    rw [need_n h.1 hb.1 ha c1, bx_3]
    rfl
/-- undo, where something is saved -/
theorem c_undo {o : OM} {T : Int → Int} {M : Nat} {V : Nat → Int → Int} {qk : Int × (Int → Int)} {qb : Nat × (Nat → Int)} (h : RP o T ((M + 1, V), qk, qb)) (hb : RB T ((M + 1, V), qk, qb) Y) : ∃ o1, F_X5_undo o = some ((0, I (M : Int)), o1) ∧ Gp o o1 ∧ RP o1 (V M) ((M, V), qk, qb) ∧ RB (V M) ((M, V), qk, qb) Y := by
  obtain ⟨B1, B2, B3, B4, B5, B6, B7, B8, B9, B10⟩ := hb
  dsimp only at B2 B3 B4 B5 B6 B7
  have hVM := B2 M (by omega)
  obtain ⟨h1, h2, ⟨b, h3⟩, h4, h5, h6⟩ := h
  have q0 : rd o 14 0 0 = I ((M + 1 : Nat) : Int) := h3.2.2.1
  obtain ⟨o1, e1, f1, g1, H1, C1⟩ := pop_e h3 hVM (h2 0 (by omega))
  refine ⟨o1, ?_, ⟨fun k i hk => f1 k i (by omega), g1⟩, ⟨C1, fun j hj => (h2 j hj).c (f1 4 j (by omega)), ⟨b, H1⟩, (congrFun (f1 0 0 (by omega)) 4).trans h4, fun hq => (h5 hq).fr (fun k a c => f1 k _ (by omega)) (fun k t a c d => f1 k _ (by omega)), h6.c (congrFun (f1 16 0 (by omega)) 0) (f1 17 0 (by omega))⟩, ⟨hVM, fun i hi => B2 i (by have : i < M := hi; omega), by show M ≤ 6; omega, B4, B5, B6, B7, B9 M (Nat.lt_succ_self M), fun i hi => B9 i (by have : i < M := hi; show i < M + 1; omega), B10⟩⟩
  have q1 : rd o1 14 0 0 = I (M : Int) := H1.2.2.1
  unfold F_X5_undo
  rw [q0, show (0 : Int32) = I 0 from rfl, if_neg (fun z => by have := I_inj (by omega) (by omega) (by omega) (by omega) z; omega), e1, bn_e, q1]
/-- what was just pushed comes back -/
theorem c_back {o : OM} {T : Int → Int} {q : Qt} (h : RP o T (pushQ q S)) (hb : RB T (pushQ q S) Y) (h6 : q.1.1 ≤ 6) : ∃ o1 q1, F_X5_undo o = some ((0, I ((if q.1.1 = 6 then 5 else q.1.1 : Nat) : Int)), o1) ∧ Gp o o1 ∧ RP o1 S q1 ∧ RB S q1 Y := by
  obtain ⟨⟨m, V⟩, qk, qb⟩ := q
  unfold pushQ at h hb
  dsimp only at h hb h6 ⊢
  by_cases c : m = 6
  · rw [if_pos c] at h hb ⊢
    obtain ⟨o1, e1, g1, r1, b1⟩ := c_undo (M := 5) h hb
    rw [if_pos rfl] at r1 b1
    exact ⟨o1, _, e1, g1, r1, b1⟩
  · rw [if_neg c] at h hb ⊢
    obtain ⟨o1, e1, g1, r1, b1⟩ := c_undo (M := m) h hb
    rw [if_pos rfl] at r1 b1
    exact ⟨o1, _, e1, g1, r1, b1⟩
end
