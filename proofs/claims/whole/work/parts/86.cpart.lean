/-! a part of the text, read by the program -/
def T6 (o o1 : OM) : Prop := (∀ k i, k ≠ 16 → k ≠ 18 → o1.1 k i = o.1 k i) ∧ o1.2 = o.2 ∧ rd o1 16 0 0 = rd o 16 0 0
theorem T6.rf (o : OM) : T6 o o := ⟨fun _ _ _ _ => rfl, rfl, rfl⟩
theorem T6.tr {o o1 o2 : OM} (h : T6 o o1) (h' : T6 o1 o2) : T6 o o2 := ⟨fun k i x y => (h'.1 k i x y).trans (h.1 k i x y), h'.2.1.trans h.2.1, h'.2.2.trans h.2.2⟩
theorem T16.t {o o1 : OM} (h : T16 o o1) : T6 o o1 := ⟨h.1, h.2.1, h.2.2.1⟩
theorem T6.w {o o1 : OM} {j : Nat} {v : Int32} (h : T6 o o1) (hj : j ≠ 0) : T6 o (wr o1 16 0 j v) := ⟨fun k i x y => (wr_ne _ _ (by omega)).trans (h.1 k i x y), h.2.1, (rd_wj _ _ (by omega)).trans h.2.2⟩
def Ncs (o : OM) (l : Int) (r : Nat × Int × Int × Int × Int) : Prop := (l = 109 → rd o 18 0 0 = I r.2.2.1 ∧ rd o 18 0 1 = I r.2.2.2.1 ∧ rd o 18 0 2 = I r.2.2.2.2) ∧ (l = 99 ∨ l = 98 → rd o 18 0 0 = I r.2.2.1 ∧ rd o 18 0 1 = I r.2.2.2.1) ∧ (l = 112 ∨ l = 121 → rd o 18 0 0 = I r.2.2.1)
section
variable {o : OM} {B : Nat → Int} {L p : Nat}
theorem cread_109 (h : PR o L B p) (hb : BB L B) (hl : ltr B L p = 109) : ∃ o1, F_X4_readPart o = some (tf ((rpS B L p).2.1 = 0), o1) ∧ T6 o o1 ∧ PR o1 L B (rpS B L p).1 ∧ rd o1 16 0 3 = I 109 ∧ ((rpS B L p).2.1 = 0 → Ncs o1 109 (rpS B L p)) := by
  have hL := hb.1
  obtain ⟨hp, hBp⟩ := ltr_lt (by omega) hl
  have es : rpS B L p = rpM B L (p + 1) := by
    unfold rpS
    rw [if_pos hl]
  rw [es]
  obtain ⟨r, hr⟩ : ∃ r, r = rpM B L (p + 1) := ⟨_, rfl⟩
  rw [← hr]
  unfold rpM at hr
  have r0 : p + 1 ≤ L := hp
  have r1 := sgp_rd (B := B) (w := 0) r0 50 50
  obtain ⟨t1, g1⟩ : ∃ t, t = sgp B L 50 50 (p + 1) 0 := ⟨_, rfl⟩
  rw [← g1, bd_e] at hr
  rw [← g1] at r1
  have r2 := tkp_rd (B := B) (w := t1.2.1) r1.2.1 44 44
  obtain ⟨t2, g2⟩ : ∃ t, t = tkp B L 44 44 t1.1 t1.2.1 := ⟨_, rfl⟩
  rw [← g2, bd_e] at hr
  rw [← g2] at r2
  have r3 := sgp_rd (B := B) (w := t2.2.1) r2.2.1 50 50
  obtain ⟨t3, g3⟩ : ∃ t, t = sgp B L 50 50 t2.1 t2.2.1 := ⟨_, rfl⟩
  rw [← g3, bd_e] at hr
  rw [← g3] at r3
  have r4 := tkp_rd (B := B) (w := t3.2.1) r3.2.1 47 47
  obtain ⟨t4, g4⟩ : ∃ t, t = tkp B L 47 47 t3.1 t3.2.1 := ⟨_, rfl⟩
  rw [← g4, bd_e] at hr
  rw [← g4] at r4
  have r5 := tkp_rd (B := B) (w := t4.2.1) r4.2.1 48 51
  obtain ⟨t5, g5⟩ : ∃ t, t = tkp B L 48 51 t4.1 t4.2.1 := ⟨_, rfl⟩
  rw [← g5, bd_e] at hr
  rw [← g5] at r5
  obtain ⟨o3, ho3⟩ : ∃ o3, o3 = wr (wr o 16 0 5 (I 0)) 16 0 3 (I 109) := ⟨_, rfl⟩
  have tA : T6 o o3 := by rw [ho3]; exact ((T6.rf o).w (by omega)).w (by omega)
  have WC3 : WC o3 L B := h.1.c tA.2.2 (tA.1 17 0 (by omega) (by omega))
  have P1 : PR (wr o 16 0 5 (I 0)) L B p := ⟨h.1.c (rd_wj _ _ (by omega)) (wr_ne _ _ (by omega)), by rw [rd_wj _ _ (by omega)]; exact h.2⟩
  have P3 : PR o3 L B p := ⟨WC3, by rw [ho3, rd_wj _ _ (by omega), rd_wj _ _ (by omega)]; exact h.2⟩
  have c3 : rd o3 16 0 5 = I ((0 : Nat) : Int) := by rw [ho3, rd_wj _ _ (by omega), rd_wr]; rfl
  have l3 : rd o3 16 0 3 = I 109 := by rw [ho3, rd_wr]
  have en := nextSign_e P1 hb (by omega)
  rw [hl] at en
  obtain ⟨a0, e0, f0, n0, p0⟩ := rsign_e P3 hb (by omega) (c := 109) (by omega)
  have y0 := tkp_y (B := B) (L := L) (p := p) (w := 0) (lo := 109) (hi := 109) ⟨rfl, hp, by omega, by omega⟩
  obtain ⟨t0, g0⟩ : ∃ t, t = tkp B L 109 109 p 0 := ⟨_, rfl⟩
  rw [← g0] at e0 p0 y0
  have w0 : t0.2.1 = 0 := by rw [y0]
  have q0 : t0.1 = p + 1 := by rw [y0]
  rw [tf_t w0] at e0
  rw [q0] at p0
  have cc0 : rd a0 16 0 5 = I ((0 : Nat) : Int) := n0.1.trans c3
  unfold F_X4_readPart
  simp only [I_lit, I_neg]
  rw [bd_e, en, bq_e, ← ho3, bd_e, l3, bd_e, if_neg (by decide), if_neg (by decide), if_pos rfl, e0, bn_e, bd_e, bd_e, if_neg (by decide)]
  obtain ⟨a1, e1, f1, p1, v1⟩ := rnum_s p0 hb r0 cc0 (by omega) (low := 50) (most := 50) (by omega) (by omega)
  rw [← g1] at e1 p1 v1
  by_cases w1 : t1.2.1 = 0
  rotate_left
  · have q2 := r2.2.2.2.1 w1
    have q3 := r3.2.2.2.1 (by omega)
    have q4 := r4.2.2.2.1 (by omega)
    have q5 := r5.2.2.2.1 (by omega)
    have rv : r.1 = t1.1 ∧ ¬ r.2.1 = 0 := by rw [hr]; dsimp only; omega
    rw [tf_f w1] at e1
    refine ⟨a1, ?_, ((tA.tr f0.t).tr f1.t), by rw [rv.1]; exact p1, by rw [f1.2.2.2, f0.2.2.2]; exact l3, fun z => absurd z rv.2⟩
    rw [e1, bn_e, if_pos rfl, tf_f rv.2]
    dsimp only
    rw [isZ0, grd_e]
  rw [tf_t w1] at e1
  rw [e1, bn_e, if_neg (by decide)]
  have cc1 : rd a1 16 0 5 = I ((1 : Nat) : Int) := (v1 w1).1
  have k2 : t2 = tkp B L 44 44 t1.1 0 := by rw [g2, w1]
  obtain ⟨a2, e2, f2, n2, p2⟩ := rsign_e p1 hb r1.2.1 (c := 44) (by omega)
  rw [← k2] at e2 p2
  by_cases w2 : t2.2.1 = 0
  rotate_left
  · have q3 := r3.2.2.2.1 w2
    have q4 := r4.2.2.2.1 (by omega)
    have q5 := r5.2.2.2.1 (by omega)
    have rv : r.1 = t2.1 ∧ ¬ r.2.1 = 0 := by rw [hr]; dsimp only; omega
    rw [tf_f w2] at e2
    refine ⟨a2, ?_, (((tA.tr f0.t).tr f1.t).tr f2.t), by rw [rv.1]; exact p2, by rw [f2.2.2.2, f1.2.2.2, f0.2.2.2]; exact l3, fun z => absurd z rv.2⟩
    rw [e2, bn_e, if_pos rfl, tf_f rv.2]
    dsimp only
    rw [isZ0, grd_e]
  rw [tf_t w2] at e2
  rw [e2, bn_e, if_neg (by decide)]
  have cc2 : rd a2 16 0 5 = I ((1 : Nat) : Int) := n2.1.trans cc1
  have k3 : t3 = sgp B L 50 50 t2.1 0 := by rw [g3, w2]
  obtain ⟨a3, e3, f3, p3, v3⟩ := rnum_s p2 hb r2.2.1 cc2 (by omega) (low := 50) (most := 50) (by omega) (by omega)
  rw [← k3] at e3 p3 v3
  by_cases w3 : t3.2.1 = 0
  rotate_left
  · have q4 := r4.2.2.2.1 w3
    have q5 := r5.2.2.2.1 (by omega)
    have rv : r.1 = t3.1 ∧ ¬ r.2.1 = 0 := by rw [hr]; dsimp only; omega
    rw [tf_f w3] at e3
    refine ⟨a3, ?_, ((((tA.tr f0.t).tr f1.t).tr f2.t).tr f3.t), by rw [rv.1]; exact p3, by rw [f3.2.2.2, f2.2.2.2, f1.2.2.2, f0.2.2.2]; exact l3, fun z => absurd z rv.2⟩
    rw [e3, bn_e, if_pos rfl, tf_f rv.2]
    dsimp only
    rw [isZ0, grd_e]
  rw [tf_t w3] at e3
  rw [e3, bn_e, if_neg (by decide)]
  have cc3 : rd a3 16 0 5 = I ((2 : Nat) : Int) := (v3 w3).1
  have k4 : t4 = tkp B L 47 47 t3.1 0 := by rw [g4, w3]
  obtain ⟨a4, e4, f4, n4, p4⟩ := rsign_e p3 hb r3.2.1 (c := 47) (by omega)
  rw [← k4] at e4 p4
  by_cases w4 : t4.2.1 = 0
  rotate_left
  · have q5 := r5.2.2.2.1 w4
    have rv : r.1 = t4.1 ∧ ¬ r.2.1 = 0 := by rw [hr]; dsimp only; omega
    rw [tf_f w4] at e4
    refine ⟨a4, ?_, (((((tA.tr f0.t).tr f1.t).tr f2.t).tr f3.t).tr f4.t), by rw [rv.1]; exact p4, by rw [f4.2.2.2, f3.2.2.2, f2.2.2.2, f1.2.2.2, f0.2.2.2]; exact l3, fun z => absurd z rv.2⟩
    rw [e4, bn_e, if_pos rfl, tf_f rv.2]
    dsimp only
    rw [isZ0, grd_e]
  rw [tf_t w4] at e4
  rw [e4, bn_e, if_neg (by decide)]
  have cc4 : rd a4 16 0 5 = I ((2 : Nat) : Int) := n4.1.trans cc3
  have k5 : t5 = tkp B L 48 51 t4.1 0 := by rw [g5, w4]
  obtain ⟨a5, e5, f5, p5, v5⟩ := rnum_t p4 hb r4.2.1 cc4 (by omega) (bound := 3) (by omega)
  rw [show (48 : Int) + 3 = 51 from by omega] at e5 p5 v5
  rw [← k5] at e5 p5 v5
  by_cases w5 : t5.2.1 = 0
  rotate_left
  · have rv : r.1 = t5.1 ∧ ¬ r.2.1 = 0 := by rw [hr]; dsimp only; omega
    rw [tf_f w5] at e5
    refine ⟨a5, ?_, ((((((tA.tr f0.t).tr f1.t).tr f2.t).tr f3.t).tr f4.t).tr f5.t), by rw [rv.1]; exact p5, by rw [f5.2.2.2, f4.2.2.2, f3.2.2.2, f2.2.2.2, f1.2.2.2, f0.2.2.2]; exact l3, fun z => absurd z rv.2⟩
    rw [e5, bn_e, if_pos rfl, tf_f rv.2]
    dsimp only
    rw [isZ0, grd_e]
  rw [tf_t w5] at e5
  rw [e5, bn_e, if_neg (by decide)]
  have cc5 : rd a5 16 0 5 = I ((3 : Nat) : Int) := (v5 w5).1
  have rv : r.1 = t5.1 ∧ r.2.1 = 0 := by rw [hr]; exact ⟨rfl, w5⟩
  refine ⟨a5, ?_, ((((((tA.tr f0.t).tr f1.t).tr f2.t).tr f3.t).tr f4.t).tr f5.t), by rw [rv.1]; exact p5, by rw [f5.2.2.2, f4.2.2.2, f3.2.2.2, f2.2.2.2, f1.2.2.2, f0.2.2.2]; exact l3, fun _ => ⟨fun _ => ⟨(by rw [(v5 w5).2.2 0 (by omega), n4.2, (v3 w3).2.2 0 (by omega), n2.2]; rw [hr]; exact (v1 w1).2.1), (by rw [(v5 w5).2.2 1 (by omega), n4.2]; rw [hr]; exact (v3 w3).2.1), (by rw [hr]; exact (v5 w5).2.1)⟩, fun z => by omega, fun z => by omega⟩⟩
  rw [tf_t rv.2]
  dsimp only
  rw [isZ1, grd_e]
theorem cread_99 (h : PR o L B p) (hb : BB L B) (hl : ltr B L p = 99) : ∃ o1, F_X4_readPart o = some (tf ((rpS B L p).2.1 = 0), o1) ∧ T6 o o1 ∧ PR o1 L B (rpS B L p).1 ∧ rd o1 16 0 3 = I 99 ∧ ((rpS B L p).2.1 = 0 → Ncs o1 99 (rpS B L p)) := by
  have hL := hb.1
  obtain ⟨hp, hBp⟩ := ltr_lt (by omega) hl
  have es : rpS B L p = rpC B L (p + 1) := by
    unfold rpS
    rw [if_neg (by rw [hl]; omega), if_pos hl]
  rw [es]
  obtain ⟨r, hr⟩ : ∃ r, r = rpC B L (p + 1) := ⟨_, rfl⟩
  rw [← hr]
  unfold rpC at hr
  have r0 : p + 1 ≤ L := hp
  have r1 := tkp_rd (B := B) (w := 0) r0 48 53
  obtain ⟨t1, g1⟩ : ∃ t, t = tkp B L 48 53 (p + 1) 0 := ⟨_, rfl⟩
  rw [← g1, bd_e] at hr
  rw [← g1] at r1
  have r2 := tkp_rd (B := B) (w := t1.2.1) r1.2.1 58 58
  obtain ⟨t2, g2⟩ : ∃ t, t = tkp B L 58 58 t1.1 t1.2.1 := ⟨_, rfl⟩
  rw [← g2, bd_e] at hr
  rw [← g2] at r2
  have r3 := tkp_rd (B := B) (w := t2.2.1) r2.2.1 48 51
  obtain ⟨t3, g3⟩ : ∃ t, t = tkp B L 48 51 t2.1 t2.2.1 := ⟨_, rfl⟩
  rw [← g3, bd_e] at hr
  rw [← g3] at r3
  obtain ⟨o3, ho3⟩ : ∃ o3, o3 = wr (wr o 16 0 5 (I 0)) 16 0 3 (I 99) := ⟨_, rfl⟩
  have tA : T6 o o3 := by rw [ho3]; exact ((T6.rf o).w (by omega)).w (by omega)
  have WC3 : WC o3 L B := h.1.c tA.2.2 (tA.1 17 0 (by omega) (by omega))
  have P1 : PR (wr o 16 0 5 (I 0)) L B p := ⟨h.1.c (rd_wj _ _ (by omega)) (wr_ne _ _ (by omega)), by rw [rd_wj _ _ (by omega)]; exact h.2⟩
  have P3 : PR o3 L B p := ⟨WC3, by rw [ho3, rd_wj _ _ (by omega), rd_wj _ _ (by omega)]; exact h.2⟩
  have c3 : rd o3 16 0 5 = I ((0 : Nat) : Int) := by rw [ho3, rd_wj _ _ (by omega), rd_wr]; rfl
  have l3 : rd o3 16 0 3 = I 99 := by rw [ho3, rd_wr]
  have en := nextSign_e P1 hb (by omega)
  rw [hl] at en
  obtain ⟨a0, e0, f0, n0, p0⟩ := rsign_e P3 hb (by omega) (c := 99) (by omega)
  have y0 := tkp_y (B := B) (L := L) (p := p) (w := 0) (lo := 99) (hi := 99) ⟨rfl, hp, by omega, by omega⟩
  obtain ⟨t0, g0⟩ : ∃ t, t = tkp B L 99 99 p 0 := ⟨_, rfl⟩
  rw [← g0] at e0 p0 y0
  have w0 : t0.2.1 = 0 := by rw [y0]
  have q0 : t0.1 = p + 1 := by rw [y0]
  rw [tf_t w0] at e0
  rw [q0] at p0
  have cc0 : rd a0 16 0 5 = I ((0 : Nat) : Int) := n0.1.trans c3
  unfold F_X4_readPart
  simp only [I_lit, I_neg]
  rw [bd_e, en, bq_e, ← ho3, bd_e, l3, bd_e, if_neg (by decide), if_pos rfl, e0, bn_e, bd_e, bd_e, if_neg (by decide)]
  obtain ⟨a1, e1, f1, p1, v1⟩ := rnum_t p0 hb r0 cc0 (by omega) (bound := 5) (by omega)
  rw [show (48 : Int) + 5 = 53 from by omega] at e1 p1 v1
  rw [← g1] at e1 p1 v1
  by_cases w1 : t1.2.1 = 0
  rotate_left
  · have q2 := r2.2.2.2.1 w1
    have q3 := r3.2.2.2.1 (by omega)
    have rv : r.1 = t1.1 ∧ ¬ r.2.1 = 0 := by rw [hr]; dsimp only; omega
    rw [tf_f w1] at e1
    refine ⟨a1, ?_, ((tA.tr f0.t).tr f1.t), by rw [rv.1]; exact p1, by rw [f1.2.2.2, f0.2.2.2]; exact l3, fun z => absurd z rv.2⟩
    rw [e1, bn_e, if_pos rfl, tf_f rv.2]
    dsimp only
    rw [isZ0, grd_e]
  rw [tf_t w1] at e1
  rw [e1, bn_e, if_neg (by decide)]
  have cc1 : rd a1 16 0 5 = I ((1 : Nat) : Int) := (v1 w1).1
  have k2 : t2 = tkp B L 58 58 t1.1 0 := by rw [g2, w1]
  obtain ⟨a2, e2, f2, n2, p2⟩ := rsign_e p1 hb r1.2.1 (c := 58) (by omega)
  rw [← k2] at e2 p2
  by_cases w2 : t2.2.1 = 0
  rotate_left
  · have q3 := r3.2.2.2.1 w2
    have rv : r.1 = t2.1 ∧ ¬ r.2.1 = 0 := by rw [hr]; dsimp only; omega
    rw [tf_f w2] at e2
    refine ⟨a2, ?_, (((tA.tr f0.t).tr f1.t).tr f2.t), by rw [rv.1]; exact p2, by rw [f2.2.2.2, f1.2.2.2, f0.2.2.2]; exact l3, fun z => absurd z rv.2⟩
    rw [e2, bn_e, if_pos rfl, tf_f rv.2]
    dsimp only
    rw [isZ0, grd_e]
  rw [tf_t w2] at e2
  rw [e2, bn_e, if_neg (by decide)]
  have cc2 : rd a2 16 0 5 = I ((1 : Nat) : Int) := n2.1.trans cc1
  have k3 : t3 = tkp B L 48 51 t2.1 0 := by rw [g3, w2]
  obtain ⟨a3, e3, f3, p3, v3⟩ := rnum_t p2 hb r2.2.1 cc2 (by omega) (bound := 3) (by omega)
  rw [show (48 : Int) + 3 = 51 from by omega] at e3 p3 v3
  rw [← k3] at e3 p3 v3
  by_cases w3 : t3.2.1 = 0
  rotate_left
  · have rv : r.1 = t3.1 ∧ ¬ r.2.1 = 0 := by rw [hr]; dsimp only; omega
    rw [tf_f w3] at e3
    refine ⟨a3, ?_, ((((tA.tr f0.t).tr f1.t).tr f2.t).tr f3.t), by rw [rv.1]; exact p3, by rw [f3.2.2.2, f2.2.2.2, f1.2.2.2, f0.2.2.2]; exact l3, fun z => absurd z rv.2⟩
    rw [e3, bn_e, if_pos rfl, tf_f rv.2]
    dsimp only
    rw [isZ0, grd_e]
  rw [tf_t w3] at e3
  rw [e3, bn_e, if_neg (by decide)]
  have cc3 : rd a3 16 0 5 = I ((2 : Nat) : Int) := (v3 w3).1
  have rv : r.1 = t3.1 ∧ r.2.1 = 0 := by rw [hr]; exact ⟨rfl, w3⟩
  refine ⟨a3, ?_, ((((tA.tr f0.t).tr f1.t).tr f2.t).tr f3.t), by rw [rv.1]; exact p3, by rw [f3.2.2.2, f2.2.2.2, f1.2.2.2, f0.2.2.2]; exact l3, fun _ => ⟨fun z => by omega, fun _ => ⟨(by rw [(v3 w3).2.2 0 (by omega), n2.2]; rw [hr]; exact (v1 w1).2.1), (by rw [hr]; exact (v3 w3).2.1)⟩, fun z => by omega⟩⟩
  rw [tf_t rv.2]
  dsimp only
  rw [isZ1, grd_e]
theorem cread_121 (h : PR o L B p) (hb : BB L B) (hl : ltr B L p = 121) : ∃ o1, F_X4_readPart o = some (tf ((rpS B L p).2.1 = 0), o1) ∧ T6 o o1 ∧ PR o1 L B (rpS B L p).1 ∧ rd o1 16 0 3 = I 121 ∧ ((rpS B L p).2.1 = 0 → Ncs o1 121 (rpS B L p)) := by
  have hL := hb.1
  obtain ⟨hp, hBp⟩ := ltr_lt (by omega) hl
  have es : rpS B L p = rpY B L (p + 1) := by
    unfold rpS
    rw [if_neg (by rw [hl]; omega), if_neg (by rw [hl]; omega), if_pos hl]
  rw [es]
  obtain ⟨r, hr⟩ : ∃ r, r = rpY B L (p + 1) := ⟨_, rfl⟩
  rw [← hr]
  unfold rpY at hr
  have r0 : p + 1 ≤ L := hp
  have r1 := nmp_rd (B := B) (w := 0) r0 1 20
  obtain ⟨t1, g1⟩ : ∃ t, t = nmp B L 1 20 (p + 1) 0 := ⟨_, rfl⟩
  rw [← g1, bd_e] at hr
  rw [← g1] at r1
  obtain ⟨o3, ho3⟩ : ∃ o3, o3 = wr (wr o 16 0 5 (I 0)) 16 0 3 (I 121) := ⟨_, rfl⟩
  have tA : T6 o o3 := by rw [ho3]; exact ((T6.rf o).w (by omega)).w (by omega)
  have WC3 : WC o3 L B := h.1.c tA.2.2 (tA.1 17 0 (by omega) (by omega))
  have P1 : PR (wr o 16 0 5 (I 0)) L B p := ⟨h.1.c (rd_wj _ _ (by omega)) (wr_ne _ _ (by omega)), by rw [rd_wj _ _ (by omega)]; exact h.2⟩
  have P3 : PR o3 L B p := ⟨WC3, by rw [ho3, rd_wj _ _ (by omega), rd_wj _ _ (by omega)]; exact h.2⟩
  have c3 : rd o3 16 0 5 = I ((0 : Nat) : Int) := by rw [ho3, rd_wj _ _ (by omega), rd_wr]; rfl
  have l3 : rd o3 16 0 3 = I 121 := by rw [ho3, rd_wr]
  have en := nextSign_e P1 hb (by omega)
  rw [hl] at en
  obtain ⟨a0, e0, f0, n0, p0⟩ := rsign_e P3 hb (by omega) (c := 121) (by omega)
  have y0 := tkp_y (B := B) (L := L) (p := p) (w := 0) (lo := 121) (hi := 121) ⟨rfl, hp, by omega, by omega⟩
  obtain ⟨t0, g0⟩ : ∃ t, t = tkp B L 121 121 p 0 := ⟨_, rfl⟩
  rw [← g0] at e0 p0 y0
  have w0 : t0.2.1 = 0 := by rw [y0]
  have q0 : t0.1 = p + 1 := by rw [y0]
  rw [tf_t w0] at e0
  rw [q0] at p0
  have cc0 : rd a0 16 0 5 = I ((0 : Nat) : Int) := n0.1.trans c3
  unfold F_X4_readPart
  simp only [I_lit, I_neg]
  rw [bd_e, en, bq_e, ← ho3, bd_e, l3, bd_e, if_neg (by decide), if_neg (by decide), if_neg (by decide), if_neg (by decide), if_pos rfl, e0, bn_e, bd_e, bd_e, if_neg (by decide)]
  obtain ⟨a1, e1, f1, p1, v1⟩ := rnum_n p0 hb r0 cc0 (by omega) (least := 1) (bound := 20) (Or.inr rfl) (by omega)
  rw [← g1] at e1 p1 v1
  by_cases w1 : t1.2.1 = 0
  rotate_left
  · have rv : r.1 = t1.1 ∧ ¬ r.2.1 = 0 := by rw [hr]; dsimp only; omega
    rw [tf_f w1] at e1
    refine ⟨a1, ?_, ((tA.tr f0.t).tr f1.t), by rw [rv.1]; exact p1, by rw [f1.2.2.2, f0.2.2.2]; exact l3, fun z => absurd z rv.2⟩
    rw [e1, bn_e, if_pos rfl, tf_f rv.2]
    dsimp only
    rw [isZ0, grd_e]
  rw [tf_t w1] at e1
  rw [e1, bn_e, if_neg (by decide)]
  have cc1 : rd a1 16 0 5 = I ((1 : Nat) : Int) := (v1 w1).1
  have rv : r.1 = t1.1 ∧ r.2.1 = 0 := by rw [hr]; exact ⟨rfl, w1⟩
  refine ⟨a1, ?_, ((tA.tr f0.t).tr f1.t), by rw [rv.1]; exact p1, by rw [f1.2.2.2, f0.2.2.2]; exact l3, fun _ => ⟨fun z => by omega, fun z => by omega, fun _ => (by rw [hr]; exact (v1 w1).2.1)⟩⟩
  rw [tf_t rv.2]
  dsimp only
  rw [isZ1, grd_e]
theorem cread_112 (h : PR o L B p) (hb : BB L B) (hl : ltr B L p = 112) : ∃ o1, F_X4_readPart o = some (tf ((rpS B L p).2.1 = 0), o1) ∧ T6 o o1 ∧ PR o1 L B (rpS B L p).1 ∧ rd o1 16 0 3 = I 112 ∧ ((rpS B L p).2.1 = 0 → Ncs o1 112 (rpS B L p)) := by
  have hL := hb.1
  obtain ⟨hp, hBp⟩ := ltr_lt (by omega) hl
  have es : rpS B L p = rpP B L (p + 1) := by
    unfold rpS
    rw [if_neg (by rw [hl]; omega), if_neg (by rw [hl]; omega), if_neg (by rw [hl]; omega), if_pos hl]
  rw [es]
  obtain ⟨r, hr⟩ : ∃ r, r = rpP B L (p + 1) := ⟨_, rfl⟩
  rw [← hr]
  unfold rpP at hr
  have r0 : p + 1 ≤ L := hp
  have r1 := tkp_rd (B := B) (w := 0) r0 48 53
  obtain ⟨t1, g1⟩ : ∃ t, t = tkp B L 48 53 (p + 1) 0 := ⟨_, rfl⟩
  rw [← g1, bd_e] at hr
  rw [← g1] at r1
  obtain ⟨o3, ho3⟩ : ∃ o3, o3 = wr (wr o 16 0 5 (I 0)) 16 0 3 (I 112) := ⟨_, rfl⟩
  have tA : T6 o o3 := by rw [ho3]; exact ((T6.rf o).w (by omega)).w (by omega)
  have WC3 : WC o3 L B := h.1.c tA.2.2 (tA.1 17 0 (by omega) (by omega))
  have P1 : PR (wr o 16 0 5 (I 0)) L B p := ⟨h.1.c (rd_wj _ _ (by omega)) (wr_ne _ _ (by omega)), by rw [rd_wj _ _ (by omega)]; exact h.2⟩
  have P3 : PR o3 L B p := ⟨WC3, by rw [ho3, rd_wj _ _ (by omega), rd_wj _ _ (by omega)]; exact h.2⟩
  have c3 : rd o3 16 0 5 = I ((0 : Nat) : Int) := by rw [ho3, rd_wj _ _ (by omega), rd_wr]; rfl
  have l3 : rd o3 16 0 3 = I 112 := by rw [ho3, rd_wr]
  have en := nextSign_e P1 hb (by omega)
  rw [hl] at en
  obtain ⟨a0, e0, f0, n0, p0⟩ := rsign_e P3 hb (by omega) (c := 112) (by omega)
  have y0 := tkp_y (B := B) (L := L) (p := p) (w := 0) (lo := 112) (hi := 112) ⟨rfl, hp, by omega, by omega⟩
  obtain ⟨t0, g0⟩ : ∃ t, t = tkp B L 112 112 p 0 := ⟨_, rfl⟩
  rw [← g0] at e0 p0 y0
  have w0 : t0.2.1 = 0 := by rw [y0]
  have q0 : t0.1 = p + 1 := by rw [y0]
  rw [tf_t w0] at e0
  rw [q0] at p0
  have cc0 : rd a0 16 0 5 = I ((0 : Nat) : Int) := n0.1.trans c3
  unfold F_X4_readPart
  simp only [I_lit, I_neg]
  rw [bd_e, en, bq_e, ← ho3, bd_e, l3, bd_e, if_neg (by decide), if_neg (by decide), if_neg (by decide), if_pos rfl, e0, bn_e, bd_e, bd_e, if_neg (by decide)]
  obtain ⟨a1, e1, f1, p1, v1⟩ := rnum_t p0 hb r0 cc0 (by omega) (bound := 5) (by omega)
  rw [show (48 : Int) + 5 = 53 from by omega] at e1 p1 v1
  rw [← g1] at e1 p1 v1
  by_cases w1 : t1.2.1 = 0
  rotate_left
  · have rv : r.1 = t1.1 ∧ ¬ r.2.1 = 0 := by rw [hr]; dsimp only; omega
    rw [tf_f w1] at e1
    refine ⟨a1, ?_, ((tA.tr f0.t).tr f1.t), by rw [rv.1]; exact p1, by rw [f1.2.2.2, f0.2.2.2]; exact l3, fun z => absurd z rv.2⟩
    rw [e1, bn_e, if_pos rfl, tf_f rv.2]
    dsimp only
    rw [isZ0, grd_e]
  rw [tf_t w1] at e1
  rw [e1, bn_e, if_neg (by decide)]
  have cc1 : rd a1 16 0 5 = I ((1 : Nat) : Int) := (v1 w1).1
  have rv : r.1 = t1.1 ∧ r.2.1 = 0 := by rw [hr]; exact ⟨rfl, w1⟩
  refine ⟨a1, ?_, ((tA.tr f0.t).tr f1.t), by rw [rv.1]; exact p1, by rw [f1.2.2.2, f0.2.2.2]; exact l3, fun _ => ⟨fun z => by omega, fun z => by omega, fun _ => (by rw [hr]; exact (v1 w1).2.1)⟩⟩
  rw [tf_t rv.2]
  dsimp only
  rw [isZ1, grd_e]
theorem cread_98 (h : PR o L B p) (hb : BB L B) (hl : ltr B L p = 98) : ∃ o1, F_X4_readPart o = some (tf ((rpS B L p).2.1 = 0), o1) ∧ T6 o o1 ∧ PR o1 L B (rpS B L p).1 ∧ rd o1 16 0 3 = I 98 ∧ ((rpS B L p).2.1 = 0 → Ncs o1 98 (rpS B L p)) := by
  have hL := hb.1
  obtain ⟨hp, hBp⟩ := ltr_lt (by omega) hl
  have es : rpS B L p = rpB B L (p + 1) := by
    unfold rpS
    rw [if_neg (by rw [hl]; omega), if_neg (by rw [hl]; omega), if_neg (by rw [hl]; omega), if_neg (by rw [hl]; omega), if_pos hl]
  rw [es]
  obtain ⟨r, hr⟩ : ∃ r, r = rpB B L (p + 1) := ⟨_, rfl⟩
  rw [← hr]
  unfold rpB at hr
  have r0 : p + 1 ≤ L := hp
  have r1 := tkp_rd (B := B) (w := 0) r0 48 51
  obtain ⟨t1, g1⟩ : ∃ t, t = tkp B L 48 51 (p + 1) 0 := ⟨_, rfl⟩
  rw [← g1, bd_e] at hr
  rw [← g1] at r1
  have r2 := tkp_rd (B := B) (w := t1.2.1) r1.2.1 61 61
  obtain ⟨t2, g2⟩ : ∃ t, t = tkp B L 61 61 t1.1 t1.2.1 := ⟨_, rfl⟩
  rw [← g2, bd_e] at hr
  rw [← g2] at r2
  have r3 := sgp_rd (B := B) (w := t2.2.1) r2.2.1 400 1500
  obtain ⟨t3, g3⟩ : ∃ t, t = sgp B L 400 1500 t2.1 t2.2.1 := ⟨_, rfl⟩
  rw [← g3, bd_e] at hr
  rw [← g3] at r3
  obtain ⟨o3, ho3⟩ : ∃ o3, o3 = wr (wr o 16 0 5 (I 0)) 16 0 3 (I 98) := ⟨_, rfl⟩
  have tA : T6 o o3 := by rw [ho3]; exact ((T6.rf o).w (by omega)).w (by omega)
  have WC3 : WC o3 L B := h.1.c tA.2.2 (tA.1 17 0 (by omega) (by omega))
  have P1 : PR (wr o 16 0 5 (I 0)) L B p := ⟨h.1.c (rd_wj _ _ (by omega)) (wr_ne _ _ (by omega)), by rw [rd_wj _ _ (by omega)]; exact h.2⟩
  have P3 : PR o3 L B p := ⟨WC3, by rw [ho3, rd_wj _ _ (by omega), rd_wj _ _ (by omega)]; exact h.2⟩
  have c3 : rd o3 16 0 5 = I ((0 : Nat) : Int) := by rw [ho3, rd_wj _ _ (by omega), rd_wr]; rfl
  have l3 : rd o3 16 0 3 = I 98 := by rw [ho3, rd_wr]
  have en := nextSign_e P1 hb (by omega)
  rw [hl] at en
  obtain ⟨a0, e0, f0, n0, p0⟩ := rsign_e P3 hb (by omega) (c := 98) (by omega)
  have y0 := tkp_y (B := B) (L := L) (p := p) (w := 0) (lo := 98) (hi := 98) ⟨rfl, hp, by omega, by omega⟩
  obtain ⟨t0, g0⟩ : ∃ t, t = tkp B L 98 98 p 0 := ⟨_, rfl⟩
  rw [← g0] at e0 p0 y0
  have w0 : t0.2.1 = 0 := by rw [y0]
  have q0 : t0.1 = p + 1 := by rw [y0]
  rw [tf_t w0] at e0
  rw [q0] at p0
  have cc0 : rd a0 16 0 5 = I ((0 : Nat) : Int) := n0.1.trans c3
  unfold F_X4_readPart
  simp only [I_lit, I_neg]
  rw [bd_e, en, bq_e, ← ho3, bd_e, l3, bd_e, if_pos rfl, e0, bn_e, bd_e, bd_e, if_neg (by decide)]
  obtain ⟨a1, e1, f1, p1, v1⟩ := rnum_t p0 hb r0 cc0 (by omega) (bound := 3) (by omega)
  rw [show (48 : Int) + 3 = 51 from by omega] at e1 p1 v1
  rw [← g1] at e1 p1 v1
  by_cases w1 : t1.2.1 = 0
  rotate_left
  · have q2 := r2.2.2.2.1 w1
    have q3 := r3.2.2.2.1 (by omega)
    have rv : r.1 = t1.1 ∧ ¬ r.2.1 = 0 := by rw [hr]; dsimp only; omega
    rw [tf_f w1] at e1
    refine ⟨a1, ?_, ((tA.tr f0.t).tr f1.t), by rw [rv.1]; exact p1, by rw [f1.2.2.2, f0.2.2.2]; exact l3, fun z => absurd z rv.2⟩
    rw [e1, bn_e, if_pos rfl, tf_f rv.2]
    dsimp only
    rw [isZ0, grd_e]
  rw [tf_t w1] at e1
  rw [e1, bn_e, if_neg (by decide)]
  have cc1 : rd a1 16 0 5 = I ((1 : Nat) : Int) := (v1 w1).1
  have k2 : t2 = tkp B L 61 61 t1.1 0 := by rw [g2, w1]
  obtain ⟨a2, e2, f2, n2, p2⟩ := rsign_e p1 hb r1.2.1 (c := 61) (by omega)
  rw [← k2] at e2 p2
  by_cases w2 : t2.2.1 = 0
  rotate_left
  · have q3 := r3.2.2.2.1 w2
    have rv : r.1 = t2.1 ∧ ¬ r.2.1 = 0 := by rw [hr]; dsimp only; omega
    rw [tf_f w2] at e2
    refine ⟨a2, ?_, (((tA.tr f0.t).tr f1.t).tr f2.t), by rw [rv.1]; exact p2, by rw [f2.2.2.2, f1.2.2.2, f0.2.2.2]; exact l3, fun z => absurd z rv.2⟩
    rw [e2, bn_e, if_pos rfl, tf_f rv.2]
    dsimp only
    rw [isZ0, grd_e]
  rw [tf_t w2] at e2
  rw [e2, bn_e, if_neg (by decide)]
  have cc2 : rd a2 16 0 5 = I ((1 : Nat) : Int) := n2.1.trans cc1
  have k3 : t3 = sgp B L 400 1500 t2.1 0 := by rw [g3, w2]
  obtain ⟨a3, e3, f3, p3, v3⟩ := rnum_s p2 hb r2.2.1 cc2 (by omega) (low := 400) (most := 1500) (by omega) (by omega)
  rw [← k3] at e3 p3 v3
  by_cases w3 : t3.2.1 = 0
  rotate_left
  · have rv : r.1 = t3.1 ∧ ¬ r.2.1 = 0 := by rw [hr]; dsimp only; omega
    rw [tf_f w3] at e3
    refine ⟨a3, ?_, ((((tA.tr f0.t).tr f1.t).tr f2.t).tr f3.t), by rw [rv.1]; exact p3, by rw [f3.2.2.2, f2.2.2.2, f1.2.2.2, f0.2.2.2]; exact l3, fun z => absurd z rv.2⟩
    rw [e3, bn_e, if_pos rfl, tf_f rv.2]
    dsimp only
    rw [isZ0, grd_e]
  rw [tf_t w3] at e3
  rw [e3, bn_e, if_neg (by decide)]
  have cc3 : rd a3 16 0 5 = I ((2 : Nat) : Int) := (v3 w3).1
  have rv : r.1 = t3.1 ∧ r.2.1 = 0 := by rw [hr]; exact ⟨rfl, w3⟩
  refine ⟨a3, ?_, ((((tA.tr f0.t).tr f1.t).tr f2.t).tr f3.t), by rw [rv.1]; exact p3, by rw [f3.2.2.2, f2.2.2.2, f1.2.2.2, f0.2.2.2]; exact l3, fun _ => ⟨fun z => by omega, fun _ => ⟨(by rw [(v3 w3).2.2 0 (by omega), n2.2]; rw [hr]; exact (v1 w1).2.1), (by rw [hr]; exact (v3 w3).2.1)⟩, fun z => by omega⟩⟩
  rw [tf_t rv.2]
  dsimp only
  rw [isZ1, grd_e]
theorem cread_0 (h : PR o L B p) (hb : BB L B) (hp : p ≤ L) (hl : ltr B L p ≠ 109 ∧ ltr B L p ≠ 99 ∧ ltr B L p ≠ 121 ∧ ltr B L p ≠ 112 ∧ ltr B L p ≠ 98) : ∃ o1, F_X4_readPart o = some (tf ((rpS B L p).2.1 = 0), o1) ∧ T6 o o1 ∧ PR o1 L B (rpS B L p).1 ∧ rd o1 16 0 3 = I (ltr B L p) ∧ ((rpS B L p).2.1 = 0 → Ncs o1 (ltr B L p) (rpS B L p)) := by
  have hL := hb.1
  have rl := ltr_rg (p := p) hb
  have es : rpS B L p = (p, 1, 0, 0, 0) := by
    unfold rpS
    rw [if_neg hl.1, if_neg hl.2.1, if_neg hl.2.2.1, if_neg hl.2.2.2.1, if_neg hl.2.2.2.2]
  have P1 : PR (wr o 16 0 5 (I 0)) L B p := ⟨h.1.c (rd_wj _ _ (by omega)) (wr_ne _ _ (by omega)), by rw [rd_wj _ _ (by omega)]; exact h.2⟩
  have en := nextSign_e P1 hb hp
  obtain ⟨l, hle⟩ : ∃ l, l = ltr B L p := ⟨_, rfl⟩
  rw [← hle] at hl rl en ⊢
  have ne : ∀ k : Int, 0 ≤ k → k ≤ 200 → l ≠ k → ¬ (I l = I k) := fun k h1 h2 h3 z => h3 (I_inj (by omega) (by omega) (by omega) (by omega) z)
  obtain ⟨o3, ho3⟩ : ∃ o3, o3 = wr (wr o 16 0 5 (I 0)) 16 0 3 (I l) := ⟨_, rfl⟩
  have tA : T6 o o3 := by rw [ho3]; exact ((T6.rf o).w (by omega)).w (by omega)
  have WC3 : WC o3 L B := h.1.c tA.2.2 (tA.1 17 0 (by omega) (by omega))
  have P3 : PR o3 L B p := ⟨WC3, by rw [ho3, rd_wj _ _ (by omega), rd_wj _ _ (by omega)]; exact h.2⟩
  have l3 : rd o3 16 0 3 = I l := by rw [ho3, rd_wr]
  have rv : ¬ (rpS B L p).2.1 = 0 := by rw [es]; show ¬ ((1 : Int) = 0); omega
  refine ⟨o3, ?_, tA, by rw [es]; exact P3, l3, fun z => absurd z rv⟩
  unfold F_X4_readPart
  simp only [I_lit, I_neg]
  rw [bd_e, en, bq_e, ← ho3, bd_e, l3, bd_e, if_neg (ne 98 (by omega) (by omega) hl.2.2.2.2), if_neg (ne 99 (by omega) (by omega) hl.2.1), if_neg (ne 109 (by omega) (by omega) hl.1), if_neg (ne 112 (by omega) (by omega) hl.2.2.2.1), if_neg (ne 121 (by omega) (by omega) hl.2.2.1), isZ0, grd_e, tf_f rv]
theorem cread_e (h : PR o L B p) (hb : BB L B) (hp : p ≤ L) : ∃ o1, F_X4_readPart o = some (tf ((rpS B L p).2.1 = 0), o1) ∧ T6 o o1 ∧ PR o1 L B (rpS B L p).1 ∧ rd o1 16 0 3 = I (ltr B L p) ∧ ((rpS B L p).2.1 = 0 → Ncs o1 (ltr B L p) (rpS B L p)) := by
  by_cases c1 : ltr B L p = 109
  · rw [c1]; exact cread_109 h hb c1
  · by_cases c2 : ltr B L p = 99
    · rw [c2]; exact cread_99 h hb c2
    · by_cases c3 : ltr B L p = 121
      · rw [c3]; exact cread_121 h hb c3
      · by_cases c4 : ltr B L p = 112
        · rw [c4]; exact cread_112 h hb c4
        · by_cases c5 : ltr B L p = 98
          · rw [c5]; exact cread_98 h hb c5
          · exact cread_0 h hb hp ⟨c1, c2, c3, c4, c5⟩
end
