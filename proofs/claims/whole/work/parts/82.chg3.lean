/-! undo, the snapshot, the buffer cleared -/
section
variable {o : OM} {S : Int → Int} {g Y : Nat} {q : Qt}
theorem ok_undo (hb : RB S q Y) (hY : Y ≤ 700000) : OK2 [2] (fun o => F_X5_undo o) (fun o => F_X6_undo o) S q Y := by
  obtain ⟨B1, B2, B3, B4, B5, B6, B7, B8, B9, B10⟩ := hb
  obtain ⟨⟨m, V⟩, qk, qb⟩ := q
  dsimp only at B2 B3 B4 B5 B6 B7
  have hb : RB S ((m, V), qk, qb) Y := ⟨B1, B2, B3, B4, B5, B6, B7, B8, B9, B10⟩
  cases m with
  | zero =>
    refine ok_look 2 1 0 rfl rfl hb (fun o h => ?_) (fun o h => ⟨I 0, ?_, fun z => absurd z (by decide)⟩)
    · obtain ⟨h1, h2, ⟨b, h3⟩, h4, h5, h6⟩ := h
      have q0 : rd o 14 0 0 = I 0 := h3.2.2.1
      show F_X5_undo o = _
      unfold F_X5_undo
      rw [q0, if_pos (by decide)]
    · obtain ⟨m1, m2, m3, m4, m5⟩ := h
      have q0 : rd o 19 0 3 = I 0 := m2.1
      unfold F_X6_undo
      rw [q0, bd_e, if_pos (by decide), show (1 : Int32) = I 1 from rfl, show (0 : Int32) = I 0 from rfl]
      dsimp only
      rw [holds_1, bn_e, if_pos rfl]
  | succ M =>
    have hVM := B2 M (by omega)
    refine ok_chg (I (M : Int)) (V M) ((M, V), qk, qb) rfl rfl ⟨hVM.mono (by omega), fun i hi => (B2 i (by have : i < M := hi; omega)).mono (by omega), by show M ≤ 6; omega, B4, fun z => (B5 z).mono (by omega), B6, B7, B9 M (Nat.lt_succ_self M), fun i hi => B9 i (by have : i < M := hi; show i < M + 1; omega), B10⟩ (fun o h => ?_) (fun o h => ?_)
    · obtain ⟨h1, h2, ⟨b, h3⟩, h4, h5, h6⟩ := h
      have q0 : rd o 14 0 0 = I ((M + 1 : Nat) : Int) := h3.2.2.1
      obtain ⟨o1, e1, f1, g1, H1, C1⟩ := pop_e h3 hVM (h2 0 (by omega))
      refine ⟨o1, ?_, ⟨fun k i hk => f1 k i (by omega), g1⟩, C1, fun j hj => (h2 j hj).c (f1 4 j (by omega)), ⟨b, H1⟩, (congrFun (f1 0 0 (by omega)) 4).trans h4, fun hq => (h5 hq).fr (fun k a c => f1 k _ (by omega)) (fun k t a c d => f1 k _ (by omega)), h6.c (congrFun (f1 16 0 (by omega)) 0) (f1 17 0 (by omega))⟩
      have q1 : rd o1 14 0 0 = I (M : Int) := H1.2.2.1
      show F_X5_undo o = _
      unfold F_X5_undo
      rw [q0, show (0 : Int32) = I 0 from rfl, if_neg (fun z => by have := I_inj (by omega) (by omega) (by omega) (by omega) z; omega), e1, bn_e, q1]
    · obtain ⟨m1, m2, m3, m4, m5⟩ := h
      have hM6 : M + 1 ≤ 6 := B3
      have q0 : rd o 19 0 3 = I ((M + 1 : Nat) : Int) := m2.1
      have hFU : 300 < FU := by unfold FU; omega
      show ∃ o1, F_X6_undo o = _ ∧ _
      unfold F_X6_undo
      generalize FU = F at hFU ⊢
      obtain ⟨p, hp⟩ : ∃ p, p = wr (wr o 19 0 0 (I 0)) 19 0 3 (I (M : Int)) := ⟨_, rfl⟩
      have fr : ∀ k i, k ≠ 19 → p.1 k i = o.1 k i := fun k i x => by rw [hp, wr_ne _ _ (by omega), wr_ne _ _ (by omega)]
      have f19 : ∀ j, j ≠ 0 → j ≠ 3 → rd p 19 0 j = rd o 19 0 j := fun j x y => by rw [hp, rd_wj _ _ (by omega), rd_wj _ _ (by omega)]
      have p3 : rd p 19 0 3 = I (M : Int) := by rw [hp, rd_wr]
      have p0 : rd p 19 0 0 = I 0 := by rw [hp, rd_wj _ _ (by omega), rd_wr]
      obtain ⟨o1, e1, f1, x1⟩ := X6_undo_33_e (fun (o_5 : OM) => some ((rd o_5 19 0 3), o_5)) (m := (M : Int)) F p 0 p3 (by omega) (by omega) (by omega) (by omega) (by omega)
      have q3 : rd o1 19 0 3 = I (M : Int) := by rw [f1.rd (by omega), p3]
      have k : ∀ k i, k ≠ 19 → k ≠ 20 → o1.1 k i = o.1 k i := fun k i x y => by rw [f1.1 k i (by omega), fr k i x]
      refine ⟨o1, ?_, by rw [hp] at f1; exact (((Gm.rf o).wr (by omega)).wr (by omega)).tr (f1.gm (by omega)), ⟨fun a a1 a2 => ?_, ⟨q3, fun i hi => (m2.2 i (by have : i < M := hi; show i < M + 1; omega)).c (k 21 0 (by omega) (by omega))⟩, by rw [f1.rd (by omega), f19 5 (by omega) (by omega)]; exact m3, fun hq => (m4 hq).c (k 22 0 (by omega) (by omega)), m5.c (by rw [f1.rd (by omega), f19 7 (by omega) (by omega)]) (k 23 0 (by omega) (by omega))⟩, by rw [f1.rd (by omega), p0]⟩
      · rw [q0, bd_e, show (0 : Int32) = I 0 from rfl, show (1 : Int32) = I 1 from rfl, if_neg (by rw [I_le (by omega) (by omega) (by omega) (by omega)]; omega)]
        dsimp only
        rw [holds_0, bn_e, if_neg (by decide), rd_wj _ _ (by omega), q0, I_sub, show ((M + 1 : Nat) : Int) - 1 = (M : Int) from by omega, ← hp, bd_e, bd_e, e1, q3]
      · have := x1 a a1 a2
        rw [if_pos (by omega)] at this
        refine this.trans ?_
        have hh := m2.2 M (Nat.lt_succ_self M) a a1 a2
        rw [show a - 0 + 244 * (M : Int) = 244 * (M : Int) + a from by omega]
        exact (congrFun (fr 21 0 (by omega)) _).trans hh
theorem ok_restore (hb : RB S q Y) (hY : Y ≤ 700000) : OK2 [2] (fun o => F_X5_restore o) (fun o => F_X6_restore o) S q Y := by
  obtain ⟨B1, B2, B3, B4, B5, B6, B7, B8, B9, B10⟩ := hb
  by_cases hk : q.2.1.1 = 1
  · have hZ := B5 hk
    have hb : RB S q Y := ⟨B1, B2, B3, B4, B5, B6, B7, B8, B9, B10⟩
    refine ok_chg (I (q.2.1.2 233)) q.2.1.2 (pushQ q S) rfl rfl (hb.push.op2 (by omega) (hZ.mono (by omega)) (B10 hk)) (fun o h => ?_) (fun o h => ?_)
    · have q0 := h.2.2.2.1
      rw [hk] at q0
      obtain ⟨o1, e1, r1, g1, -⟩ := h.push hb
      have cz : CS o1 1 q.2.1.2 := r1.2.2.2.2.1 hk
      obtain ⟨o2, e2, f2, g2, c2⟩ := copy2_e (o := o1) (j0 := 0) (j1 := 1) (by omega) cz hZ (r1.2.1 0 (by omega))
      have fz : Fz o1 o2 := ⟨fun k i hk => f2 k i (by omega), g2⟩
      refine ⟨o2, ?_, g1.tr fz.gp, r1.op4 fz (f2 4 0 (by omega)) c2⟩
      have y0 := c2.1
      show F_X5_restore o = _
      unfold F_X5_restore
      rw [q0, if_neg (by decide), e1, bn_e, e2, bn_e, y0]
    · have q0 := h.2.2.1
      rw [hk] at q0
      have hFU : 300 < FU := by unfold FU; omega
      obtain ⟨o1, e1, r1, g1, t1⟩ := h.chg hb
      show ∃ o1, F_X6_restore o = _ ∧ _
      unfold F_X6_restore
      generalize FU = F at hFU ⊢
      obtain ⟨o2, e2, f2, x2⟩ := X6_restore_27_e (fun (o_6 : OM) => grd (inB ((233 : Int32)) 244) (some ((rd o_6 20 0 ((233 : Int32)).toNatClampNeg), o_6))) F o1 0 (by omega) (by omega) (by omega)
      have mz : MA o1 22 0 q.2.1.2 := r1.2.2.2.1 hk
      have s2 : MS o2 q.2.1.2 := fun a a1 a2 => by
        have := x2 a a1 a2
        rw [if_pos (by omega)] at this
        refine this.trans ?_
        rw [show a - 0 + 0 = 0 + a from by omega]
        exact mz a a1 a2
      refine ⟨o2, ?_, RM.fin r1 g1 t1 f2 s2⟩
      have y0 := s2 233 (by omega) (by omega)
      rw [q0, bd_e, if_neg (by decide), show (0 : Int32) = I 0 from rfl]
      dsimp only
      rw [holds_0, bn_e, if_neg (by decide), e1, bn_e, bd_e, e2, show (233 : Int32) = I 233 from rfl, I_inB (a := 233) (by omega) (by omega) (by omega), grd_e, y0]
  · have hk0 : q.2.1.1 = 0 := by omega
    have hb : RB S q Y := ⟨B1, B2, B3, B4, B5, B6, B7, B8, B9, B10⟩
    refine ok_look 2 1 0 rfl rfl hb (fun o h => ?_) (fun o h => ⟨I 0, ?_, fun z => absurd z (by decide)⟩)
    · have q0 := h.2.2.2.1
      rw [hk0] at q0
      show F_X5_restore o = _
      unfold F_X5_restore
      rw [q0, if_pos (by decide)]
    · have q0 := h.2.2.1
      rw [hk0] at q0
      unfold F_X6_restore
      rw [q0, bd_e, if_pos (by decide), show (1 : Int32) = I 1 from rfl, show (0 : Int32) = I 0 from rfl]
      dsimp only
      rw [holds_1, bn_e, if_pos rfl]
theorem ok_keep (hb : RB S q Y) (hY : Y ≤ 700000) : OK0 F_X5_keep F_X6_keep S q Y := by
  obtain ⟨qs, qk, qb⟩ := q
  obtain ⟨B1, B2, B3, B4, B5, B6, B7, B8, B9, B10⟩ := hb
  refine ⟨I (S 233), S, (qs, (1, S), qb), fun o h => ?_, fun o h => ?_, B1.mono (by omega), fun i hi => (B2 i hi).mono (by omega), B3, Or.inr rfl, fun _ => B1.mono (by omega), B6, B7, B8, B9, fun _ => B8⟩
  · obtain ⟨h1, h2, ⟨b, h3⟩, h4, h5, h6⟩ := h
    obtain ⟨o1, e1, f1, g1, c1⟩ := copy2_e (o := o) (j0 := 1) (j1 := 0) (by omega) h1 B1 (h2 1 (by omega))
    obtain ⟨p, hp⟩ : ∃ p, p = wr o1 0 0 4 (I 1) := ⟨_, rfl⟩
    have fr : ∀ k i, ¬ ((i = 1 ∧ 1 ≤ k ∧ k ≤ 3) ∨ (i / 6 = 1 ∧ 5 ≤ k ∧ k ≤ 13)) → k ≠ 0 → p.1 k i = o.1 k i := fun k i x y => by rw [hp, wr_ne _ _ (by omega), f1 k i x]
    have C0 : CS p 0 S := h1.fr (fun k a c => fr k _ (by omega) (by omega)) (fun k t a c d => fr k _ (by omega) (by omega))
    have C1 : CS p 1 S := c1.fr (fun k a c => by rw [hp]; exact wr_ne _ _ (by omega)) (fun k t a c d => by rw [hp]; exact wr_ne _ _ (by omega))
    refine ⟨p, ?_, ⟨fun k i hk => fr k i (by omega) (by omega), by rw [hp]; exact g1⟩, C0, fun j hj => (h2 j hj).c (fr 4 j (by omega) (by omega)), ⟨b, h3.fr (fr 14 0 (by omega) (by omega)) (fun k i a c d => fr k _ (by omega) (by omega)) (fun k t a c d => fr k _ (by omega) (by omega))⟩, by rw [hp, rd_wr], fun _ => C1, h6.c (congrFun (fr 16 0 (by omega) (by omega)) 0) (fr 17 0 (by omega) (by omega))⟩
    have y0 := C0.1
    unfold F_X5_keep
    rw [e1, bn_e, show (1 : Int32) = I 1 from rfl, isZ1, grd_e, ← hp, bd_e, y0]
  · obtain ⟨m1, m2, m3, m4, m5⟩ := h
    have hFU : 300 < FU := by unfold FU; omega
    unfold F_X6_keep
    generalize FU = F at hFU ⊢
    obtain ⟨p, hp⟩ : ∃ p, p = wr o 19 0 0 (I 0) := ⟨_, rfl⟩
    obtain ⟨o1, e1, f1, x1⟩ := X6_keep_7_e (fun (o_2 : OM) => grd (isZ ((1 : Int32))) (bd (wr o_2 19 0 5 ((1 : Int32))) (fun o_3 : OM => grd (inB ((233 : Int32)) 244) (some ((rd o_3 20 0 ((233 : Int32)).toNatClampNeg), o_3))))) F p 0 (by omega) (by omega) (by omega)
    obtain ⟨w, hw⟩ : ∃ w, w = wr o1 19 0 5 (I 1) := ⟨_, rfl⟩
    have k : ∀ k i, k ≠ 19 → k ≠ 22 → w.1 k i = o.1 k i := fun k i x y => by rw [hw, wr_ne _ _ (by omega), f1.1 k i (by omega), hp, wr_ne _ _ (by omega)]
    have k19 : ∀ j, j ≠ 0 → j ≠ 5 → rd w 19 0 j = rd o 19 0 j := fun j x y => by rw [hw, rd_wj _ _ y, f1.rd (by omega), hp, rd_wj _ _ x]
    have s1 : MS w S := m1.fr (k 20 0 (by omega) (by omega))
    refine ⟨w, ?_, ⟨fun k' i hk => k k' i (by omega) (by omega), by rw [hw]; show o1.2 24 = _; rw [f1.2, hp]; rfl⟩, s1, m2.c (k19 3 (by omega) (by omega)) (k 21 0 (by omega) (by omega)), by rw [hw, rd_wr], fun _ a a1 a2 => ?_, m5.c (k19 7 (by omega) (by omega)) (k 23 0 (by omega) (by omega))⟩
    · have y0 := s1 233 (by omega) (by omega)
      rw [show (0 : Int32) = I 0 from rfl, ← hp, bd_e, bd_e, e1, show (1 : Int32) = I 1 from rfl, isZ1, grd_e, ← hw, bd_e, show (233 : Int32) = I 233 from rfl, I_inB (a := 233) (by omega) (by omega) (by omega), grd_e, y0]
    · rw [hw, X_ne _ _ (by omega), show (0 : Int) + a = a from by omega]
      have := x1 a a1 a2
      rw [if_pos (by omega)] at this
      refine this.trans ?_
      rw [show a - 0 + 0 = a from by omega, hp]
      exact (X_ne _ _ (by omega)).trans (m1 a a1 a2)
theorem ok_clear (hb : RB S q Y) (hY : Y ≤ 700000) : OK0 F_X5_clearBuffer F_X6_clearBuffer S q Y := by
  obtain ⟨qs, qk, L, B⟩ := q
  have hb' := hb.mono (Y' := Y + 1200) (by omega)
  obtain ⟨B1, B2, B3, B4, B5, B6, B7, B8⟩ := hb'
  refine ⟨I (L : Int), S, (qs, qk, 0, B), fun o h => ?_, fun o h => ?_, B1, B2, B3, B4, B5, by show 0 ≤ 60; omega, fun k hk => by have : k < 0 := hk; omega, B8⟩
  · obtain ⟨h1, h2, ⟨b, h3⟩, h4, h5, h6⟩ := h
    have q0 : rd o 16 0 0 = I (L : Int) := h6.1
    have fr : ∀ k i, k ≠ 16 → (wr o 16 0 0 (I 0)).1 k i = o.1 k i := fun k i x => wr_ne _ _ (by omega)
    refine ⟨wr o 16 0 0 (I 0), ?_, (Gp.rf o).wr (by omega), h1.fr (fun k a c => fr k _ (by omega)) (fun k t a c d => fr k _ (by omega)), fun j hj => (h2 j hj).c (fr 4 j (by omega)), ⟨b, h3.fr (fr 14 0 (by omega)) (fun k i a c d => fr k _ (by omega)) (fun k t a c d => fr k _ (by omega))⟩, (congrFun (fr 0 0 (by omega)) 4).trans h4, fun hq => (h5 hq).fr (fun k a c => fr k _ (by omega)) (fun k t a c d => fr k _ (by omega)), rd_wr _ _ _ _ _, fun k hk => by have : k < 0 := hk; omega⟩
    unfold F_X5_clearBuffer
    rw [q0, bd_e, bd_e]
    rfl
  · obtain ⟨m1, m2, m3, m4, m5⟩ := h
    have q0 : rd o 19 0 7 = I (L : Int) := m5.1
    obtain ⟨p, hp⟩ : ∃ p, p = wr (wr o 19 0 0 (I 0)) 19 0 7 (I 0) := ⟨_, rfl⟩
    have fr : ∀ k i, k ≠ 19 → p.1 k i = o.1 k i := fun k i x => by rw [hp, wr_ne _ _ (by omega), wr_ne _ _ (by omega)]
    have f19 : ∀ j, j ≠ 0 → j ≠ 7 → rd p 19 0 j = rd o 19 0 j := fun j x y => by rw [hp, rd_wj _ _ (by omega), rd_wj _ _ (by omega)]
    refine ⟨p, ?_, by rw [hp]; exact ((Gm.rf o).wr (by omega)).wr (by omega), m1.fr (fr 20 0 (by omega)), m2.c (f19 3 (by omega) (by omega)) (fr 21 0 (by omega)), (f19 5 (by omega) (by omega)).trans m3, fun hq => (m4 hq).c (fr 22 0 (by omega)), by rw [hp, rd_wr]; rfl, fun k hk => by have : k < 0 := hk; omega⟩
    unfold F_X6_clearBuffer
    rw [show (0 : Int32) = I 0 from rfl, bd_e, rd_wj _ _ (by omega), q0, bd_e, ← hp, bd_e]
end
