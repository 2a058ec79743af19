/-! looks: both answer alike -/
theorem holds_0 (o : OM) : F_X6_holds o (I 0) = some (I 1, wr o 19 0 0 (I 0)) := by
  rw [holds_e o 0 (by omega) (by omega), tf_t rfl]
theorem holds_1 (o : OM) : F_X6_holds o (I 1) = some (I 0, wr o 19 0 0 (I 1)) := by
  rw [holds_e o 1 (by omega) (by omega), tf_f (by omega)]
theorem holds_2 (o : OM) : F_X6_holds o (I 2) = some (I 0, wr o 19 0 0 (I 2)) := by
  rw [holds_e o 2 (by omega) (by omega), tf_f (by omega)]
abbrev R32 (a : Int) : Prop := -2147483648 ≤ a ∧ a < 2147483648
section
variable {o : OM} {S : Int → Int} {g Y : Nat} {q : Qt}
theorem there_y (hS : MS o S) (hB : SB S Y) {a : Int} (ha : R32 a) (h : 0 ≤ a ∧ a < (gm S : Int)) : F_X6_isThere o (I a) = some (I 1) := by
  rw [isThere_e hS hB, I_to ha.1 ha.2, tf_t h]
theorem there_n (hS : MS o S) (hB : SB S Y) {a : Int} (ha : R32 a) (h : ¬ (0 ≤ a ∧ a < (gm S : Int))) : F_X6_isThere o (I a) = some (I 0) := by
  rw [isThere_e hS hB, I_to ha.1 ha.2, tf_f h]
theorem mbath_y (o : OM) {a : Int} (h : 0 ≤ a ∧ a ≤ 3) : F_X6_isBath o (I a) = some (I 1) := by
  rw [isBath_e, tf_t]
  rw [show (0 : Int32) = I 0 from rfl, show (3 : Int32) = I 3 from rfl, I_lt (by omega) (by omega) (by omega) (by omega), I_lt (by omega) (by omega) (by omega) (by omega)]
  omega
theorem mbath_n (o : OM) {a : Int} (ha : R32 a) (h : ¬ (0 ≤ a ∧ a ≤ 3)) : F_X6_isBath o (I a) = some (I 0) := by
  rw [isBath_e, tf_f]
  rw [show (0 : Int32) = I 0 from rfl, show (3 : Int32) = I 3 from rfl, I_lt (by omega) (by omega) (by omega) (by omega), I_lt (by omega) (by omega) (by omega) (by omega)]
  omega
theorem mdeg_y (o : OM) {a : Int} (h : -400 ≤ a ∧ a ≤ 1500) : F_X6_isDegree o (I a) = some (I 1) := by
  rw [isDegree_e, tf_t]
  rw [show (-400 : Int32) = I (-400) from rfl, show (1500 : Int32) = I 1500 from rfl, I_lt (by omega) (by omega) (by omega) (by omega), I_lt (by omega) (by omega) (by omega) (by omega)]
  omega
theorem mdeg_n (o : OM) {a : Int} (ha : R32 a) (h : ¬ (-400 ≤ a ∧ a ≤ 1500)) : F_X6_isDegree o (I a) = some (I 0) := by
  rw [isDegree_e, tf_f]
  rw [show (-400 : Int32) = I (-400) from rfl, show (1500 : Int32) = I 1500 from rfl, I_lt (by omega) (by omega) (by omega) (by omega), I_lt (by omega) (by omega) (by omega) (by omega)]
  omega
theorem in_y (o : OM) {a b c : Int} (ha : R32 a) (hb : R32 b) (hc : R32 c) (h : b ≤ a ∧ a ≤ c) : F_X6_in o (I a) (I b) (I c) = some (I 1) := by rw [in_I o ha hb hc, tf_t h]
theorem in_n (o : OM) {a b c : Int} (ha : R32 a) (hb : R32 b) (hc : R32 c) (h : ¬ (b ≤ a ∧ a ≤ c)) : F_X6_in o (I a) (I b) (I c) = some (I 0) := by rw [in_I o ha hb hc, tf_f h]
theorem wi_y (o : OM) {a b c : Int} (ha : R32 a) (hb : R32 b) (hc : R32 c) (h : b ≤ a ∧ a ≤ c) : F_X5_isWithin o (I a) (I b) (I c) = some (I 1) := by rw [within_I o ha hb hc, tf_t h]
theorem wi_n (o : OM) {a b c : Int} (ha : R32 a) (hb : R32 b) (hc : R32 c) (h : ¬ (b ≤ a ∧ a ≤ c)) : F_X5_isWithin o (I a) (I b) (I c) = some (I 0) := by rw [within_I o ha hb hc, tf_f h]
theorem counted_e (hS : MS o S) (hB : SB S Y) (hY : Y ≤ 1000000) {m : Nat} (h3 : rd o 19 0 3 = I (m : Int)) {w : Int} (h1 : 0 ≤ w) (h2 : w ≤ 17) : F_X6_counted o (I w) = some (I (cts S m w)) := by
  have hS' : ∀ a : Int, 0 ≤ a → a < 244 → rd o 20 0 (I a).toNatClampNeg = I (S a) := hS
  have s2 := sumOf_e hS hB hY (w := 2) (by omega)
  have s3 := sumOf_e hS hB hY (w := 3) (by omega)
  have s5 := sumOf_e hS hB hY (w := 5) (by omega)
  have hc : w = 0 ∨ w = 1 ∨ w = 2 ∨ w = 3 ∨ w = 4 ∨ w = 5 ∨ w = 6 ∨ w = 7 ∨ w = 8 ∨ w = 9 ∨ w = 10 ∨ w = 11 ∨ w = 12 ∨ w = 13 ∨ w = 14 ∨ w = 15 ∨ w = 16 ∨ w = 17 := by omega
  unfold F_X6_counted cts
  rcases hc with rfl | rfl | rfl | rfl | rfl | rfl | rfl | rfl | rfl | rfl | rfl | rfl | rfl | rfl | rfl | rfl | rfl | rfl <;> simp (disch := omega) only [↓bd_e, bq_e, bn_e, grd_e, I_add, I_sub, I_mul, I_neg, isZ0, isZ1, isZ_tf, tf_z, tf_le, I_lit, I_inB, I_tcN, I_lt, I_le, I_eq, ↓reduceIte, not_true_eq_false, not_false_eq_true, nz, hS', s2, s3, s5, h3, Int.reduceEq, Int.reduceAdd, Int.reduceSub, Int.reduceLE, Int.reduceLT, or_false, or_self, true_or, or_true]
theorem ok_look {cs : List Nat} {P : OM → Option ((Nat × Int32) × OM)} {M : OM → Option (Int32 × OM)} (c : Nat) (w : Int) (r : Int32) (hc : okc cs c = true) (hw : wk cs c = I w) (hb : RB S q Y) (h1 : ∀ o, RP o S q → P o = some ((c, r), o)) (h2 : ∀ o, RM o S q → ∃ r', M o = some (r', wr o 19 0 0 (I w)) ∧ (c = 0 → r' = r)) : OK2 cs P M S q Y :=
  ⟨c, r, S, q, hc, fun o h => ⟨o, h1 o h, Gp.rf o, h⟩, fun o h => by
    obtain ⟨r', e, f⟩ := h2 o h
    exact ⟨r', _, e, (Gm.rf o).wr (by omega), h.w19 _ (by omega), by rw [hw, rd_wr], f⟩, hb.mono (by omega)⟩
theorem RM.z (h : RM o S q) : MS (wr o 19 0 0 (I 0)) S := (h.w19 (j := 0) (I 0) (by omega)).1
theorem ok_reads (hb : RB S q Y) (hY : Y ≤ 1000000) {a z : Int} (ha : R32 a) (hz : R32 z) : OK2 [3, 1] (fun o => F_X5_reads o (I a) (I z)) (fun o => F_X6_reads o (I a) (I z)) S q Y := by
  have hm := hb.1.m
  by_cases c1 : 0 ≤ a ∧ a < (gm S : Int)
  · by_cases c2 : -400 ≤ z ∧ z ≤ 1500
    · obtain ⟨g, rfl⟩ : ∃ g : Nat, a = (g : Int) := ⟨a.toNat, by omega⟩
      have hg : g < gm S := by omega
      refine ok_look 0 0 _ rfl rfl hb (fun o h => x_reads h.1 hb.1 hg c2.1 c2.2) (fun o h => ⟨_, ?_, fun _ => rfl⟩)
      have e1 := there_y h.1 hb.1 ha c1
      have e2 := mdeg_y o c2
      have e3 := readingOf_e h.z (hb.1.g hg) (by omega) c2.1 c2.2
      unfold F_X6_reads
      simp only [I_lit, I_neg, ↓bd_e, bq_e, bn_e, i10, i00, ↓reduceIte, holds_0, holds_1, holds_2, e1, e2, e3, I_add]
    · refine ok_look 1 2 0 rfl rfl hb (fun o h => ?_) (fun o h => ⟨I 0, ?_, fun z => absurd z (by decide)⟩)
      · show F_X5_reads o _ _ = _
        unfold F_X5_reads
        rw [need_y h.1 hb.1 ha c1, bx_0, deg_n o hz c2, bx_1]
      · have e1 := there_y h.1 hb.1 ha c1
        have e2 := mdeg_n o hz c2
        unfold F_X6_reads
        simp only [I_lit, I_neg, ↓bd_e, bq_e, bn_e, i10, i00, ↓reduceIte, holds_0, holds_1, holds_2, e1, e2]
  · refine ok_look 3 1 0 rfl rfl hb (fun o h => ?_) (fun o h => ⟨I 0, ?_, fun z => absurd z (by decide)⟩)
    · show F_X5_reads o _ _ = _
      unfold F_X5_reads
      rw [need_n h.1 hb.1 ha c1, bx_3]
    · have e1 := there_n h.1 hb.1 ha c1
      unfold F_X6_reads
      simp only [I_lit, I_neg, ↓bd_e, bq_e, bn_e, i10, i00, ↓reduceIte, holds_0, holds_1, holds_2, e1]
theorem ok_corrected (hb : RB S q Y) (hY : Y ≤ 1000000) {a x w : Int} (ha : R32 a) (hx : R32 x) (hw : R32 w) : OK2 [3, 1] (fun o => F_X5_corrected o (I a) (I x) (I w)) (fun o => F_X6_corrected o (I a) (I x) (I w)) S q Y := by
  have hm := hb.1.m
  by_cases c1 : 0 ≤ a ∧ a < (gm S : Int)
  · obtain ⟨g, rfl⟩ : ∃ g : Nat, a = (g : Int) := ⟨a.toNat, by omega⟩
    have hg : g < gm S := by omega
    by_cases c2 : -999 ≤ x ∧ x ≤ 1999
    · by_cases c3 : 0 ≤ w ∧ w ≤ 1
      · refine ok_look 0 0 _ rfl rfl hb (fun o h => x_corrected h.1 hb.1 hg c2.1 c2.2 (by omega)) (fun o h => ⟨_, ?_, fun _ => rfl⟩)
        have e1 := there_y h.1 hb.1 ha c1
        have e2 := in_y o hx (b := -999) (c := 1999) (by omega) (by omega) c2
        have e3 := in_y o hw (b := 0) (c := 1) (by omega) (by omega) c3
        have e4 := correctedOr_e h.z (hb.1.g hg) (by omega) (x := x) (by omega) (by omega)
        unfold F_X6_corrected
        simp only [I_lit, I_neg, ↓bd_e, bq_e, bn_e, i10, i00, ↓reduceIte, holds_0, holds_1, holds_2, e1, e2, e3, e4]
      · refine ok_look 1 2 0 rfl rfl hb (fun o h => ?_) (fun o h => ⟨I 0, ?_, fun z => absurd z (by decide)⟩)
        · have e2 := wi_y o hx (b := -999) (c := 1999) (by omega) (by omega) c2
          have e3 := wi_n o hw (b := 0) (c := 1) (by omega) (by omega) c3
          show F_X5_corrected o _ _ _ = _
          unfold F_X5_corrected
          rw [need_y h.1 hb.1 ha c1, bx_0]
          simp only [I_lit, I_neg, ↓bd_e, bq_e, bn_e, i10, i00, ↓reduceIte, holds_0, holds_1, holds_2, e2, e3]
        · have e1 := there_y h.1 hb.1 ha c1
          have e2 := in_y o hx (b := -999) (c := 1999) (by omega) (by omega) c2
          have e3 := in_n o hw (b := 0) (c := 1) (by omega) (by omega) c3
          unfold F_X6_corrected
          simp only [I_lit, I_neg, ↓bd_e, bq_e, bn_e, i10, i00, ↓reduceIte, holds_0, holds_1, holds_2, e1, e2, e3]
    · refine ok_look 1 2 0 rfl rfl hb (fun o h => ?_) (fun o h => ⟨I 0, ?_, fun z => absurd z (by decide)⟩)
      · have e2 := wi_n o hx (b := -999) (c := 1999) (by omega) (by omega) c2
        show F_X5_corrected o _ _ _ = _
        unfold F_X5_corrected
        rw [need_y h.1 hb.1 ha c1, bx_0]
        simp only [I_lit, I_neg, ↓bd_e, bq_e, bn_e, i10, i00, ↓reduceIte, holds_0, holds_1, holds_2, e2]
      · have e1 := there_y h.1 hb.1 ha c1
        have e2 := in_n o hx (b := -999) (c := 1999) (by omega) (by omega) c2
        unfold F_X6_corrected
        simp only [I_lit, I_neg, ↓bd_e, bq_e, bn_e, i10, i00, ↓reduceIte, holds_0, holds_1, holds_2, e1, e2]
  · refine ok_look 3 1 0 rfl rfl hb (fun o h => ?_) (fun o h => ⟨I 0, ?_, fun z => absurd z (by decide)⟩)
    · show F_X5_corrected o _ _ _ = _
      unfold F_X5_corrected
      rw [need_n h.1 hb.1 ha c1, bx_3]
    · have e1 := there_n h.1 hb.1 ha c1
      unfold F_X6_corrected
      by_cases c2 : -999 ≤ x ∧ x ≤ 1999
      · have e2 := in_y o hx (b := -999) (c := 1999) (by omega) (by omega) c2
        by_cases c3 : 0 ≤ w ∧ w ≤ 1
        · have e3 := in_y o hw (b := 0) (c := 1) (by omega) (by omega) c3
          simp only [I_lit, I_neg, ↓bd_e, bq_e, bn_e, i10, i00, ↓reduceIte, holds_0, holds_1, holds_2, e1, e2, e3]
        · have e3 := in_n o hw (b := 0) (c := 1) (by omega) (by omega) c3
          simp only [I_lit, I_neg, ↓bd_e, bq_e, bn_e, i10, i00, ↓reduceIte, holds_0, holds_1, holds_2, e1, e2, e3]
      · have e2 := in_n o hx (b := -999) (c := 1999) (by omega) (by omega) c2
        simp only [I_lit, I_neg, ↓bd_e, bq_e, bn_e, i10, i00, ↓reduceIte, holds_0, holds_1, holds_2, e1, e2]
theorem ok_thermometer (hb : RB S q Y) (hY : Y ≤ 1000000) {a w : Int} (ha : R32 a) (hw : R32 w) : OK2 [3, 1] (fun o => F_X5_thermometer o (I a) (I w)) (fun o => F_X6_thermometer o (I a) (I w)) S q Y := by
  have hm := hb.1.m
  by_cases c1 : 0 ≤ a ∧ a < (gm S : Int)
  · obtain ⟨g, rfl⟩ : ∃ g : Nat, a = (g : Int) := ⟨a.toNat, by omega⟩
    have hg : g < gm S := by omega
    by_cases c2 : 0 ≤ w ∧ w ≤ 8
    · refine ok_look 0 0 _ rfl rfl hb (fun o h => x_thermo h.1 hb.1 hY hg c2.1 c2.2) (fun o h => ⟨_, ?_, fun _ => rfl⟩)
      have e1 := there_y h.1 hb.1 ha c1
      have e2 := in_y o hw (b := 0) (c := 8) (by omega) (by omega) c2
      have e3 := ofGlass_e h.z hb.1 hY hg c2.1 c2.2
      unfold F_X6_thermometer
      simp only [I_lit, I_neg, ↓bd_e, bq_e, bn_e, i10, i00, ↓reduceIte, holds_0, holds_1, holds_2, e1, e2, e3]
    · refine ok_look 1 2 0 rfl rfl hb (fun o h => ?_) (fun o h => ⟨I 0, ?_, fun z => absurd z (by decide)⟩)
      · have n : ∀ k : Int, 0 ≤ k → k ≤ 8 → (I w = I k) = False := fun k h1 h2 => eq_false (fun z => by have := I_inj hw.1 hw.2 (by omega) (by omega) z; omega)
        show F_X5_thermometer o _ _ = _
        unfold F_X5_thermometer
        rw [need_y h.1 hb.1 ha c1, bx_0, I_inB (a := (g : Int)) (by omega) (by omega) (by omega), grd_e, bd_e]
        simp (disch := omega) only [I_lit, n, ↓reduceIte]
      · have e1 := there_y h.1 hb.1 ha c1
        have e2 := in_n o hw (b := 0) (c := 8) (by omega) (by omega) c2
        unfold F_X6_thermometer
        simp only [I_lit, I_neg, ↓bd_e, bq_e, bn_e, i10, i00, ↓reduceIte, holds_0, holds_1, holds_2, e1, e2]
  · refine ok_look 3 1 0 rfl rfl hb (fun o h => ?_) (fun o h => ⟨I 0, ?_, fun z => absurd z (by decide)⟩)
    · show F_X5_thermometer o _ _ = _
      unfold F_X5_thermometer
      rw [need_n h.1 hb.1 ha c1, bx_3]
    · have e1 := there_n h.1 hb.1 ha c1
      unfold F_X6_thermometer
      simp only [I_lit, I_neg, ↓bd_e, bq_e, bn_e, i10, i00, ↓reduceIte, holds_0, holds_1, holds_2, e1]
theorem ok_point (hb : RB S q Y) (hY : Y ≤ 1000000) {a p w : Int} (ha : R32 a) (hp : R32 p) (hw : R32 w) : OK2 [3, 1] (fun o => F_X5_point o (I a) (I p) (I w)) (fun o => F_X6_point o (I a) (I p) (I w)) S q Y := by
  have hm := hb.1.m
  have lp : (I p < I 0) = (p < 0) := I_lt hp.1 hp.2 (by omega) (by omega)
  have lp' : (I 0 ≤ I p) = (0 ≤ p) := I_le (by omega) (by omega) hp.1 hp.2
  by_cases c1 : 0 ≤ a ∧ a < (gm S : Int)
  · obtain ⟨g, rfl⟩ : ∃ g : Nat, a = (g : Int) := ⟨a.toNat, by omega⟩
    have hg : g < gm S := by omega
    by_cases c2 : 0 ≤ p
    · have c2' : (p < 0) = False := eq_false (by omega)
      have c2t : (0 ≤ p) = True := eq_true c2
      by_cases c3 : 0 ≤ w ∧ w ≤ 3
      · refine ok_look 0 0 _ rfl rfl hb (fun o h => x_point h.1 hb.1 hg c2 hp.2 c3.1 c3.2) (fun o h => ⟨_, ?_, fun _ => rfl⟩)
        have e1 := there_y h.1 hb.1 ha c1
        have e3 := in_y o hw (b := 0) (c := 3) (by omega) (by omega) c3
        have e4 := ofPoint_e h.z hb.1 hg c2 hp.2 c3.1 c3.2
        unfold F_X6_point
        simp only [I_lit, I_neg, ↓bd_e, bq_e, bn_e, i10, i00, ↓reduceIte, holds_0, holds_1, holds_2, e1, lp, c2', e3, e4]
      · refine ok_look 1 2 0 rfl rfl hb (fun o h => ?_) (fun o h => ⟨I 0, ?_, fun z => absurd z (by decide)⟩)
        · have e3 := wi_n o hw (b := 0) (c := 3) (by omega) (by omega) c3
          show F_X5_point o _ _ _ = _
          unfold F_X5_point
          rw [need_y h.1 hb.1 ha c1, bx_0]
          simp only [I_lit, I_neg, ↓bd_e, bq_e, bn_e, i10, i00, ↓reduceIte, holds_0, holds_1, holds_2, lp', c2t, e3]
        · have e1 := there_y h.1 hb.1 ha c1
          have e3 := in_n o hw (b := 0) (c := 3) (by omega) (by omega) c3
          unfold F_X6_point
          simp only [I_lit, I_neg, ↓bd_e, bq_e, bn_e, i10, i00, ↓reduceIte, holds_0, holds_1, holds_2, e1, lp, c2', e3]
    · have c2' : (p < 0) = True := eq_true (by omega)
      have c2t : (0 ≤ p) = False := eq_false c2
      refine ok_look 1 2 0 rfl rfl hb (fun o h => ?_) (fun o h => ⟨I 0, ?_, fun z => absurd z (by decide)⟩)
      · show F_X5_point o _ _ _ = _
        unfold F_X5_point
        rw [need_y h.1 hb.1 ha c1, bx_0]
        simp only [I_lit, I_neg, ↓bd_e, bq_e, bn_e, i10, i00, ↓reduceIte, holds_0, holds_1, holds_2, lp', c2t]
      · have e1 := there_y h.1 hb.1 ha c1
        unfold F_X6_point
        simp only [I_lit, I_neg, ↓bd_e, bq_e, bn_e, i10, i00, ↓reduceIte, holds_0, holds_1, holds_2, e1, lp, c2']
  · refine ok_look 3 1 0 rfl rfl hb (fun o h => ?_) (fun o h => ⟨I 0, ?_, fun z => absurd z (by decide)⟩)
    · show F_X5_point o _ _ _ = _
      unfold F_X5_point
      rw [need_n h.1 hb.1 ha c1, bx_3]
    · have e1 := there_n h.1 hb.1 ha c1
      unfold F_X6_point
      by_cases c2 : p < 0
      · have c2' : (p < 0) = True := eq_true c2
        simp only [I_lit, I_neg, ↓bd_e, bq_e, bn_e, i10, i00, ↓reduceIte, holds_0, holds_1, holds_2, e1, lp, c2']
      · have c2' : (p < 0) = False := eq_false c2
        by_cases c3 : 0 ≤ w ∧ w ≤ 3
        · have e3 := in_y o hw (b := 0) (c := 3) (by omega) (by omega) c3
          simp only [I_lit, I_neg, ↓bd_e, bq_e, bn_e, i10, i00, ↓reduceIte, holds_0, holds_1, holds_2, e1, lp, c2', e3]
        · have e3 := in_n o hw (b := 0) (c := 3) (by omega) (by omega) c3
          simp only [I_lit, I_neg, ↓bd_e, bq_e, bn_e, i10, i00, ↓reduceIte, holds_0, holds_1, holds_2, e1, lp, c2', e3]
theorem ok_count (hb : RB S q Y) (hY : Y ≤ 1000000) {w : Int} (hw : R32 w) : OK2 [1] (fun o => F_X5_count o (I w)) (fun o => F_X6_count o (I w)) S q Y := by
  have hm := hb.1.m
  by_cases c2 : 0 ≤ w ∧ w ≤ 17
  · refine ok_look 0 0 (I (cts S q.1.1 w)) rfl rfl hb (fun o h => ?_) (fun o h => ⟨_, ?_, fun _ => rfl⟩)
    · obtain ⟨h1, h2, ⟨b, h3⟩, h4, h5, h6⟩ := h
      exact x_count h1 hb.1 hY h3.2.2.1 c2.1 c2.2
    · have e2 := in_y o hw (b := 0) (c := 17) (by omega) (by omega) c2
      have e3 := counted_e h.z hb.1 hY (m := q.1.1) ((rd_wj _ _ (by omega)).trans h.2.1.1) c2.1 c2.2
      unfold F_X6_count
      simp only [I_lit, I_neg, ↓bd_e, bq_e, bn_e, i10, i00, ↓reduceIte, holds_0, holds_1, holds_2, e2, e3]
  · refine ok_look 1 1 0 rfl rfl hb (fun o h => ?_) (fun o h => ⟨I 0, ?_, fun z => absurd z (by decide)⟩)
    · have e2 := wi_n o hw (b := 0) (c := 17) (by omega) (by omega) c2
      show F_X5_count o _ = _
      unfold F_X5_count
      simp only [I_lit, I_neg, ↓bd_e, bq_e, bn_e, i10, i00, ↓reduceIte, holds_0, holds_1, holds_2, e2]
    · have e2 := in_n o hw (b := 0) (c := 17) (by omega) (by omega) c2
      unfold F_X6_count
      simp only [I_lit, I_neg, ↓bd_e, bq_e, bn_e, i10, i00, ↓reduceIte, holds_0, holds_1, holds_2, e2]
theorem ok_whyNot (hb : RB S q Y) (hY : Y ≤ 1000000) {a b : Int} (ha : R32 a) (hbb : R32 b) : OK2 [3] (fun o => F_X5_whyNot o (I a) (I b)) (fun o => F_X6_whyNot o (I a) (I b)) S q Y := by
  have hm := hb.1.m
  by_cases c1 : 0 ≤ a ∧ a < (gm S : Int)
  · obtain ⟨g, rfl⟩ : ∃ g : Nat, a = (g : Int) := ⟨a.toNat, by omega⟩
    have hg : g < gm S := by omega
    by_cases c2 : 0 ≤ b ∧ b ≤ 3
    · refine ok_look 0 0 _ rfl rfl hb (fun o h => x_whyNot h.1 hb.1 hg c2.1 (by omega)) (fun o h => ⟨_, ?_, fun _ => rfl⟩)
      have e1 := there_y h.1 hb.1 ha c1
      have e2 := mbath_y o c2
      have e3 := hindrance_e h.z hb.1 (hb.1.g hg) (by omega) c2.1 (by omega)
      unfold F_X6_whyNot
      simp only [I_lit, I_neg, ↓bd_e, bq_e, bn_e, i10, i00, ↓reduceIte, holds_0, holds_1, holds_2, e1, e2, e3]
    · refine ok_look 3 1 0 rfl rfl hb (fun o h => ?_) (fun o h => ⟨I 0, ?_, fun z => absurd z (by decide)⟩)
      · show F_X5_whyNot o _ _ = _
        unfold F_X5_whyNot
        rw [need_y h.1 hb.1 ha c1, bx_0, bath_n o hbb c2, bx_3]
      · have e1 := there_y h.1 hb.1 ha c1
        have e2 := mbath_n o hbb c2
        unfold F_X6_whyNot
        simp only [I_lit, I_neg, ↓bd_e, bq_e, bn_e, i10, i00, ↓reduceIte, holds_0, holds_1, holds_2, e1, e2]
  · refine ok_look 3 1 0 rfl rfl hb (fun o h => ?_) (fun o h => ⟨I 0, ?_, fun z => absurd z (by decide)⟩)
    · show F_X5_whyNot o _ _ = _
      unfold F_X5_whyNot
      rw [need_n h.1 hb.1 ha c1, bx_3]
    · have e1 := there_n h.1 hb.1 ha c1
      unfold F_X6_whyNot
      simp only [I_lit, I_neg, ↓bd_e, bq_e, bn_e, i10, i00, ↓reduceIte, holds_0, holds_1, holds_2, e1]
theorem ok_overlap (hb : RB S q Y) (hY : Y ≤ 1000000) {a b z : Int} (ha : R32 a) (hbb : R32 b) (hz : R32 z) : OK2 [3, 1] (fun o => F_X5_overlap o (I a) (I b) (I z)) (fun o => F_X6_overlap o (I a) (I b) (I z)) S q Y := by
  have hm := hb.1.m
  by_cases c1 : 0 ≤ a ∧ a < (gm S : Int)
  · by_cases c2 : 0 ≤ b ∧ b < (gm S : Int)
    · by_cases c3 : -400 ≤ z ∧ z ≤ 1500
      · obtain ⟨g, rfl⟩ : ∃ g : Nat, a = (g : Int) := ⟨a.toNat, by omega⟩
        obtain ⟨h', rfl⟩ : ∃ g : Nat, b = (g : Int) := ⟨b.toNat, by omega⟩
        have hg : g < gm S := by omega
        have hh : h' < gm S := by omega
        refine ok_look 0 0 _ rfl rfl hb (fun o h => x_overlap h.1 hb.1 hg hh c3.1 c3.2) (fun o h => ⟨_, ?_, fun _ => rfl⟩)
        have e1 := there_y h.1 hb.1 ha c1
        have e2 := there_y h.1 hb.1 hbb c2
        have e3 := mdeg_y o c3
        have e4 := overlapOf_e h.z (hb.1.g hg) (hb.1.g hh) (by omega) (by omega) c3.1 c3.2
        unfold F_X6_overlap
        simp only [I_lit, I_neg, ↓bd_e, bq_e, bn_e, i10, i00, ↓reduceIte, holds_0, holds_1, holds_2, e1, e2, e3, e4]
      · refine ok_look 1 2 0 rfl rfl hb (fun o h => ?_) (fun o h => ⟨I 0, ?_, fun z => absurd z (by decide)⟩)
        · show F_X5_overlap o _ _ _ = _
          unfold F_X5_overlap
          rw [need_y h.1 hb.1 ha c1, bx_0, need_y h.1 hb.1 hbb c2, bx_0, deg_n o hz c3, bx_1]
        · have e1 := there_y h.1 hb.1 ha c1
          have e2 := there_y h.1 hb.1 hbb c2
          have e3 := mdeg_n o hz c3
          unfold F_X6_overlap
          simp only [I_lit, I_neg, ↓bd_e, bq_e, bn_e, i10, i00, ↓reduceIte, holds_0, holds_1, holds_2, e1, e2, e3]
    · refine ok_look 3 1 0 rfl rfl hb (fun o h => ?_) (fun o h => ⟨I 0, ?_, fun z => absurd z (by decide)⟩)
      · show F_X5_overlap o _ _ _ = _
        unfold F_X5_overlap
        rw [need_y h.1 hb.1 ha c1, bx_0, need_n h.1 hb.1 hbb c2, bx_3]
      · have e1 := there_y h.1 hb.1 ha c1
        have e2 := there_n h.1 hb.1 hbb c2
        unfold F_X6_overlap
        simp only [I_lit, I_neg, ↓bd_e, bq_e, bn_e, i10, i00, ↓reduceIte, holds_0, holds_1, holds_2, e1, e2]
  · refine ok_look 3 1 0 rfl rfl hb (fun o h => ?_) (fun o h => ⟨I 0, ?_, fun z => absurd z (by decide)⟩)
    · show F_X5_overlap o _ _ _ = _
      unfold F_X5_overlap
      rw [need_n h.1 hb.1 ha c1, bx_3]
    · have e1 := there_n h.1 hb.1 ha c1
      unfold F_X6_overlap
      simp only [I_lit, I_neg, ↓bd_e, bq_e, bn_e, i10, i00, ↓reduceIte, holds_0, holds_1, holds_2, e1]
theorem ok_worst (hb : RB S q Y) (hY : Y ≤ 1000000) {a b : Int} (ha : R32 a) (hbb : R32 b) : OK2 [3] (fun o => F_X5_worstDegree o (I a) (I b)) (fun o => F_X6_worstDegree o (I a) (I b)) S q Y := by
  have hm := hb.1.m
  by_cases c1 : 0 ≤ a ∧ a < (gm S : Int)
  · by_cases c2 : 0 ≤ b ∧ b < (gm S : Int)
    · obtain ⟨g, rfl⟩ : ∃ g : Nat, a = (g : Int) := ⟨a.toNat, by omega⟩
      obtain ⟨h', rfl⟩ : ∃ g : Nat, b = (g : Int) := ⟨b.toNat, by omega⟩
      have hg : g < gm S := by omega
      have hh : h' < gm S := by omega
      refine ok_look 0 0 _ rfl rfl hb (fun o h => x_worst h.1 hb.1 hg hh) (fun o h => ⟨_, ?_, fun _ => rfl⟩)
      have e1 := there_y h.1 hb.1 ha c1
      have e2 := there_y h.1 hb.1 hbb c2
      have e4 := worst_e h.z (hb.1.g hg) (hb.1.g hh) (by omega) (by omega)
      unfold F_X6_worstDegree
      simp only [I_lit, I_neg, ↓bd_e, bq_e, bn_e, i10, i00, ↓reduceIte, holds_0, holds_1, holds_2, e1, e2, e4]
    · refine ok_look 3 1 0 rfl rfl hb (fun o h => ?_) (fun o h => ⟨I 0, ?_, fun z => absurd z (by decide)⟩)
      · show F_X5_worstDegree o _ _ = _
        unfold F_X5_worstDegree
        rw [need_y h.1 hb.1 ha c1, bx_0, need_n h.1 hb.1 hbb c2, bx_3]
      · have e1 := there_y h.1 hb.1 ha c1
        have e2 := there_n h.1 hb.1 hbb c2
        unfold F_X6_worstDegree
        simp only [I_lit, I_neg, ↓bd_e, bq_e, bn_e, i10, i00, ↓reduceIte, holds_0, holds_1, holds_2, e1, e2]
  · refine ok_look 3 1 0 rfl rfl hb (fun o h => ?_) (fun o h => ⟨I 0, ?_, fun z => absurd z (by decide)⟩)
    · show F_X5_worstDegree o _ _ = _
      unfold F_X5_worstDegree
      rw [need_n h.1 hb.1 ha c1, bx_3]
    · have e1 := there_n h.1 hb.1 ha c1
      unfold F_X6_worstDegree
      simp only [I_lit, I_neg, ↓bd_e, bq_e, bn_e, i10, i00, ↓reduceIte, holds_0, holds_1, holds_2, e1]
theorem ok_void (hb : RB S q Y) (hY : Y ≤ 1000000) {a : Int} (ha : R32 a) : OK2 [3] (fun o => F_X5_voidIn o (I a)) (fun o => F_X6_voidIn o (I a)) S q Y := by
  have hm := hb.1.m
  by_cases c1 : 0 ≤ a ∧ a < (gm S : Int)
  · obtain ⟨g, rfl⟩ : ∃ g : Nat, a = (g : Int) := ⟨a.toNat, by omega⟩
    have hg : g < gm S := by omega
    refine ok_look 0 0 _ rfl rfl hb (fun o h => x_void h.1 hb.1 hY hg) (fun o h => ⟨_, ?_, fun _ => rfl⟩)
    have e1 := there_y h.1 hb.1 ha c1
    have e4 := myears_e h.z hb.1 hY (hb.1.g hg) (by omega)
    unfold F_X6_voidIn
    simp only [I_lit, I_neg, ↓bd_e, bq_e, bn_e, i10, i00, ↓reduceIte, holds_0, holds_1, holds_2, e1, e4]
  · refine ok_look 3 1 0 rfl rfl hb (fun o h => ?_) (fun o h => ⟨I 0, ?_, fun z => absurd z (by decide)⟩)
    · show F_X5_voidIn o _ = _
      unfold F_X5_voidIn
      rw [need_n h.1 hb.1 ha c1, bx_3]
    · have e1 := there_n h.1 hb.1 ha c1
      unfold F_X6_voidIn
      simp only [I_lit, I_neg, ↓bd_e, bq_e, bn_e, i10, i00, ↓reduceIte, holds_0, holds_1, holds_2, e1]
theorem ok_stopped (hb : RB S q Y) (hY : Y ≤ 1000000) {w : Int} (hw : R32 w) : OK2 [1] (fun o => F_X5_stopped o (I w)) (fun o => F_X6_stopped o (I w)) S q Y := by
  by_cases c2 : 0 ≤ w ∧ w ≤ 1
  · have hl : S (244 + w) = S (242 + w) := by
      have := hb.2.2.2.2.2.2.2.1
      have hc : w = 0 ∨ w = 1 := by omega
      rcases hc with rfl | rfl
      · exact this.1
      · exact this.2
    refine ok_look 0 0 (I (S (244 + w))) rfl rfl hb (fun o h => x_stopped h.1 (by omega)) (fun o h => ⟨_, ?_, fun _ => rfl⟩)
    rw [hl]
    have e2 := in_y o hw (b := 0) (c := 1) (by omega) (by omega) c2
    have e3 := h.z (242 + w) (by omega) (by omega)
    unfold F_X6_stopped
    simp only [I_lit, I_neg, ↓bd_e, bq_e, bn_e, i10, i00, ↓reduceIte, holds_0, holds_1, holds_2, e2, I_add]
    rw [I_inB (a := 242 + w) (by omega) (by omega) (by omega), grd_e, e3]
  · refine ok_look 1 1 0 rfl rfl hb (fun o h => ?_) (fun o h => ⟨I 0, ?_, fun z => absurd z (by decide)⟩)
    · have e2 := wi_n o hw (b := 0) (c := 1) (by omega) (by omega) c2
      show F_X5_stopped o _ = _
      unfold F_X5_stopped
      simp only [I_lit, I_neg, ↓bd_e, bq_e, bn_e, i10, i00, ↓reduceIte, holds_0, holds_1, holds_2, e2]
    · have e2 := in_n o hw (b := 0) (c := 1) (by omega) (by omega) c2
      unfold F_X6_stopped
      simp only [I_lit, I_neg, ↓bd_e, bq_e, bn_e, i10, i00, ↓reduceIte, holds_0, holds_1, holds_2, e2]
end
