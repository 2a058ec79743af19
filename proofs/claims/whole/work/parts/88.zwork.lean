/-! work -/
section
variable {o : OM} {S : Int → Int} {q : Qt} {Y : Nat}
theorem RP.clr (h : RP o S q) : RP (wr o 16 0 0 (I 0)) S (q.1, q.2.1, (0, q.2.2.2)) := by
  obtain ⟨h1, h2, ⟨b, h3⟩, h4, h5, h6⟩ := h
  have fr : ∀ k i, k ≠ 16 → (wr o 16 0 0 (I 0)).1 k i = o.1 k i := fun k i x => wr_ne _ _ (by omega)
  exact ⟨h1.fr (fun k a c => fr k _ (by omega)) (fun k t a c d => fr k _ (by omega)), fun j hj => (h2 j hj).c (fr 4 j (by omega)), ⟨b, h3.fr (fr 14 0 (by omega)) (fun k i a c d => fr k _ (by omega)) (fun k t a c d => fr k _ (by omega))⟩, (congrFun (fr 0 0 (by omega)) 4).trans h4, fun hq => (h5 hq).fr (fun k a c => fr k _ (by omega)) (fun k t a c d => fr k _ (by omega)), rd_wr _ _ _ _ _, fun k hk => by have : k < 0 := hk; omega⟩
theorem RM.clr (h : RM o S q) : RM (wr o 19 0 7 (I 0)) S (q.1, q.2.1, (0, q.2.2.2)) := by
  obtain ⟨m1, m2, m3, m4, m5⟩ := h
  have fr : ∀ k i, k ≠ 19 → (wr o 19 0 7 (I 0)).1 k i = o.1 k i := fun k i x => wr_ne _ _ (by omega)
  exact ⟨m1.fr (fr 20 0 (by omega)), m2.c (rd_wj _ _ (by omega)) (fr 21 0 (by omega)), (rd_wj _ _ (by omega)).trans m3, fun hq => (m4 hq).c (fr 22 0 (by omega)), rd_wr _ _ _ _ _, fun k hk => by have : k < 0 := hk; omega⟩
def stS (S : Int → Int) (x y : Int) : Int → Int := upI (upI (upI (upI S 242 x) 243 y) 244 x) 245 y
theorem ok_work (hb : RB S q Y) (hY : Y ≤ 700000) : OK2 [1] (fun o => F_X5_work o) (fun o => F_X6_work o) S q Y := by
  have hBB : BB q.2.2.1 q.2.2.2 := ⟨hb.2.2.2.2.2.1, hb.2.2.2.2.2.2.1⟩
  have hL := hBB.1
  obtain ⟨L, hLe⟩ : ∃ L, L = q.2.2.1 := ⟨_, rfl⟩
  obtain ⟨B, hBe⟩ : ∃ B, B = q.2.2.2 := ⟨_, rfl⟩
  rw [← hLe, ← hBe] at hBB
  rw [← hLe] at hL
  obtain ⟨w1, w2, w3⟩ := gwS_rd (B := B) (L := L) (L + 1) 0 (by omega)
  by_cases g0 : (gwS B L (L + 1) 0).2 = 0
  · have hB0 : SB (upI (upI S 242 (-1)) 243 (-1)) Y := hb.1.stop (by omega) (by omega)
    obtain ⟨S', k, rs, j1, j2, j3, j4, j5, j6⟩ := work_sim hBB (pushQ q S) (L + 1) 0 0 (upI (upI S 242 (-1)) 243 (-1)) Y (by omega) (by omega) (by omega) g0 hB0 (by omega)
    have hP := hb.push
    obtain ⟨x, hx⟩ : ∃ x : Int, x = if rs = 0 then -1 else (k : Int) := ⟨_, rfl⟩
    obtain ⟨y, hy⟩ : ∃ y : Int, y = if rs = 0 then -1 else rs := ⟨_, rfl⟩
    have rx : -1 ≤ x ∧ x ≤ 60 := by rw [hx]; split <;> omega
    have ry : -1 ≤ y ∧ y ≤ 8 := by rw [hy]; split <;> omega
    have sbf : SB (stS S' x y) (Y + 1200) := by
      have s1 := (j3.stop rx ry).mono (Y' := Y + 1200) (by omega)
      exact (s1.up (Nat.le_refl _) (a := 244) (v := x) (by unfold okv; omega)).up (Nat.le_refl _) (by unfold okv; omega)
    have lkf : LK (stS S' x y) := by
      unfold LK stS
      refine ⟨?_, ?_⟩
      · rw [upI_n _ _ (by omega), upI_s, upI_n _ _ (by omega), upI_n _ _ (by omega), upI_n _ _ (by omega), upI_s]
      · rw [upI_s, upI_n _ _ (by omega), upI_n _ _ (by omega), upI_s]
    obtain ⟨b1, b2, b3, b4, b5, b6, b7, b8⟩ := hP
    refine ok_chg (I (k : Int)) (stS S' x y) ((pushQ q S).1, (pushQ q S).2.1, (0, (pushQ q S).2.2.2)) rfl rfl ⟨sbf, fun i hi => (b2 i hi).mono (by omega), b3, b4, fun z => (b5 z).mono (by omega), by show 0 ≤ 60; omega, fun k hk => by have : k < 0 := hk; omega, lkf, b8.2⟩ (fun o h => ?_) (fun o h => ?_)
    · have hW := h.2.2.2.2.2
      rw [← hLe, ← hBe] at hW
      obtain ⟨o2, e2, t2, p2⟩ := rw_e hBB hW
      rw [tf_t g0] at e2
      obtain ⟨o4, e4, R4, g4, -⟩ := (h.t6 t2).push hb
      obtain ⟨o5, ho5⟩ : ∃ o5, o5 = wr o4 16 0 2 (I 0) := ⟨_, rfl⟩
      have t5 : T6 o4 o5 := by rw [ho5]; exact (T6.rf o4).w (by omega)
      have R5 := R4.t6 t5
      have C5 : CS o5 0 (upI (upI S 242 (-1)) 243 (-1)) := R5.1.c hb.1.wb (fun a a1 a2 a3 a4 => by rw [upI_n _ _ a4, upI_n _ _ a3])
      have R5' : RP o5 (upI (upI S 242 (-1)) 243 (-1)) (pushQ q S) := ⟨C5, R5.2⟩
      have hW5 : WC o5 L B := by rw [hLe, hBe]; exact R5.2.2.2.2.2
      have hFU : 100 < FU := by unfold FU; omega
      show ∃ o1, F_X5_work o = _ ∧ _
      unfold F_X5_work
      generalize FU = F at hFU ⊢
      obtain ⟨o8, e8, R8, g8⟩ := j5 o5 (fun (o_8 : OM) (v1_6 : Int32) (v2_7 : Int32) => bd (fun (s_9 : Int32) => bd (wr o_8 1 0 3 s_9) (fun o_10 : OM => bd (fun (s_11 : Int32) => bd (wr o_10 1 0 4 s_11) (fun o_12 : OM => bd (wr o_12 16 0 0 (I 0)) (fun o_13 : OM => some ((0, v1_6), o_13)))) (fun k117 => if v2_7 = I 0 then (k117 (I (-1))) else (k117 v2_7)))) (fun k101 => if v2_7 = I 0 then (k101 (I (-1))) else (k101 v1_6))) F (by omega) R5' ⟨hW5, by rw [ho5, rd_wr]; rfl⟩
      obtain ⟨o12, ho12⟩ : ∃ o12, o12 = wr (wr o8 1 0 3 (I x)) 1 0 4 (I y) := ⟨_, rfl⟩
      have f12 : Fz o8 o12 := by rw [ho12]; exact ((Fz.rf o8).wr (by omega)).wr (by omega)
      have W' := j3.wb
      have C12 : CS o12 0 (stS S' x y) := by
        rw [ho12]
        refine ((R8.1.s1 W' (j := 3) (a := 244) x (by omega)).s1 (W'.u _ (by omega)) (j := 4) (a := 245) y (by omega)).c ((W'.u _ (by omega)).u _ (by omega)) (fun a a1 a2 a3 a4 => ?_)
        unfold stS
        by_cases k5 : a = 245
        · rw [k5, upI_s, upI_s]
        · rw [upI_n _ _ k5, upI_n _ _ k5]
          by_cases k4 : a = 244
          · rw [k4, upI_s, upI_s]
          · rw [upI_n _ _ k4, upI_n _ _ k4, upI_n _ _ a4, upI_n _ _ a3]
      have R12 := R8.op4 f12 (by rw [ho12, wr_ne _ _ (by omega), wr_ne _ _ (by omega)]) C12
      refine ⟨wr o12 16 0 0 (I 0), ?_, ((((t2.gp.tr g4).tr t5.gp).tr g8).tr f12.gp).wr (by omega), R12.clr⟩
      simp only [I_lit, I_neg]
      rw [e2, bn_e, if_neg (by decide), e4, bn_e, ← ho5, bd_e, bd_e]
      refine e8.trans ?_
      rw [bd_e]
      by_cases r0 : rs = 0
      · rw [if_pos r0] at hx hy
        rw [r0, if_pos rfl, ho12, hx, hy]
        dsimp only
        rw [bd_e, bd_e, if_pos rfl]
        dsimp only
        rw [bd_e, bd_e]
      · rw [if_neg r0] at hx hy
        rw [if_neg (fun z => by have := I_inj (by omega) (by omega) (by omega) (by omega) z; omega), ho12, hx, hy]
        dsimp only
        rw [bd_e, bd_e, if_neg (fun z => by have := I_inj (by omega) (by omega) (by omega) (by omega) z; omega)]
        dsimp only
        rw [bd_e, bd_e]
    · have hW := h.2.2.2.2
      rw [← hLe, ← hBe] at hW
      obtain ⟨o2, c', e2, t2, m2⟩ := go_e hBB hW
      have q9 := m2.2.2
      rw [g0] at q9
      have R2 := h.t19 t2
      obtain ⟨o7, e7, R7, g7, v7⟩ := R2.chg hb
      obtain ⟨o9, ho9⟩ : ∃ o9, o9 = wr (wr o7 20 0 (I 242).toNatClampNeg (I (-1))) 20 0 (I 243).toNatClampNeg (I (-1)) := ⟨_, rfl⟩
      have f9 : Fk o7 o9 20 := by rw [ho9]; exact ((Fk.rf o7 20).wr).wr
      have s9 : MS o9 (upI (upI S 242 (-1)) 243 (-1)) := by rw [ho9]; exact (R7.1.up (by omega) (by omega) _).up (by omega) (by omega) _
      have R9 := R7.op f9 s9
      obtain ⟨o10, ho10⟩ : ∃ o10, o10 = wr (wr o9 19 0 8 (I 0)) 19 0 9 (I 0) := ⟨_, rfl⟩
      have t10 : T19 o9 o10 := by rw [ho10]; exact ((T19.rf o9).wr (by omega)).wr (by omega)
      have R10 := R9.t19 t10
      have hW10 : WM o10 L B := by rw [hLe, hBe]; exact R10.2.2.2.2
      have hFU : 100 < FU := by unfold FU; omega
      show ∃ o1, F_X6_work o = _ ∧ _
      have hgo : ∃ o11, F_X6_goesThrough o9 (I 1) = some (I (k : Int), o11) ∧ RM o11 (if rs = 0 then S' else upI (upI S' 242 (k : Int)) 243 rs) (pushQ q S) ∧ Gm o10 o11 ∧ rd o11 19 0 0 = rd o10 19 0 0 := by
        unfold F_X6_goesThrough
        generalize FU = F at hFU ⊢
        obtain ⟨o11, e11, r11⟩ := j6 o10 (fun (o_4 : OM) (v2_3 : Int32) => some (v2_3, o_4)) F (by omega) R10 ⟨hW10, by rw [ho10, rd_wj _ _ (by omega), rd_wr]; rfl, by rw [ho10, rd_wr]⟩
        refine ⟨o11, ?_, r11⟩
        simp only [I_lit]
        rw [bd_e, isZ0, grd_e, ← ho10, bd_e, bd_e]
        exact e11
      obtain ⟨o11, e11, R11, g11, v11⟩ := hgo
      have R12 := R11.clr
      refine ⟨wr o11 19 0 7 (I 0), ?_, (((t2.gm.tr g7).tr (f9.gm (by omega))).tr (t10.gm.tr g11)).wr (by omega), ⟨R12.1.c (fun a a1 a2 => ?_), R12.2⟩, ?_⟩
      · unfold F_X6_work
        simp only [I_lit, I_neg]
        rw [e2, bn_e, bd_e, q9, if_pos rfl]
        dsimp only
        rw [holds_0, bn_e, if_neg (by decide), e7, bn_e, I_inB (a := 242) (by omega) (by omega) (by omega), grd_e, bd_e, I_inB (a := 243) (by omega) (by omega) (by omega), grd_e, bd_e, ← ho9, e11, bn_e, bd_e]
      · unfold stS
        rw [upI_n _ _ (by omega), upI_n _ _ (by omega)]
        have k2 := j4 242 (by omega) (by omega)
        have k3 := j4 243 (by omega) (by omega)
        rw [upI_n _ _ (by omega), upI_s] at k2
        rw [upI_s] at k3
        by_cases r0 : rs = 0
        · rw [if_pos r0] at hx hy ⊢
          by_cases a3 : a = 243
          · rw [a3, upI_s, k3, hy]
          · rw [upI_n _ _ a3]
            by_cases a4 : a = 242
            · rw [a4, upI_s, k2, hx]
            · rw [upI_n _ _ a4]
        · rw [if_neg r0] at hx hy ⊢
          rw [hx, hy]
      · rw [rd_wj _ _ (by omega), v11, t10.2.2 0 (by omega), f9.rd (by omega), v7]
  · have g1 : (gwS B L (L + 1) 0).2 = 1 := by omega
    refine ⟨1, 0, S, q, rfl, fun o h => ?_, fun o h => ?_, hb.mono (by omega)⟩
    · have hW := h.2.2.2.2.2
      rw [← hLe, ← hBe] at hW
      obtain ⟨o2, e2, t2, p2⟩ := rw_e hBB hW
      rw [tf_f g0] at e2
      refine ⟨o2, ?_, t2.gp, h.t6 t2⟩
      show F_X5_work o = _
      unfold F_X5_work
      rw [e2, bn_e, if_pos (by decide)]
    · have hW := h.2.2.2.2
      rw [← hLe, ← hBe] at hW
      obtain ⟨o2, c', e2, t2, m2⟩ := go_e hBB hW
      have q9 := m2.2.2
      rw [g1] at q9
      refine ⟨I 0, wr o2 19 0 0 (I 1), ?_, t2.gm.wr (by omega), (h.t19 t2).w19 _ (by omega), by rw [rd_wr]; rfl, fun z => absurd z (by decide)⟩
      show F_X6_work o = _
      unfold F_X6_work
      simp only [I_lit, I_neg]
      rw [e2, bn_e, bd_e, q9, if_neg (by decide)]
      dsimp only
      rw [holds_1, bn_e, if_pos rfl]
end
