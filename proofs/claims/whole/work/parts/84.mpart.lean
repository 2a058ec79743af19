/-! a part of the text, read by the model -/
def ltr (B : Nat → Int) (L p : Nat) : Int := if p < L then B p else 0
def rpM (B : Nat → Int) (L p : Nat) : Nat × Int × Int × Int × Int := bd (sgp B L 50 50 p 0) (fun t1 => bd (tkp B L 44 44 t1.1 t1.2.1) (fun t2 => bd (sgp B L 50 50 t2.1 t2.2.1) (fun t3 => bd (tkp B L 47 47 t3.1 t3.2.1) (fun t4 => bd (tkp B L 48 51 t4.1 t4.2.1) (fun t5 => (t5.1, t5.2.1, t1.2.2, t3.2.2, t5.2.2))))))
def rpC (B : Nat → Int) (L p : Nat) : Nat × Int × Int × Int × Int := bd (tkp B L 48 53 p 0) (fun t1 => bd (tkp B L 58 58 t1.1 t1.2.1) (fun t2 => bd (tkp B L 48 51 t2.1 t2.2.1) (fun t3 => (t3.1, t3.2.1, t1.2.2, t3.2.2, 0))))
def rpY (B : Nat → Int) (L p : Nat) : Nat × Int × Int × Int × Int := bd (nmp B L 1 20 p 0) (fun t1 => (t1.1, t1.2.1, t1.2.2, 0, 0))
def rpP (B : Nat → Int) (L p : Nat) : Nat × Int × Int × Int × Int := bd (tkp B L 48 53 p 0) (fun t1 => (t1.1, t1.2.1, t1.2.2, 0, 0))
def rpB (B : Nat → Int) (L p : Nat) : Nat × Int × Int × Int × Int := bd (tkp B L 48 51 p 0) (fun t1 => bd (tkp B L 61 61 t1.1 t1.2.1) (fun t2 => bd (sgp B L 400 1500 t2.1 t2.2.1) (fun t3 => (t3.1, t3.2.1, t1.2.2, t3.2.2, 0))))
def rpS (B : Nat → Int) (L p : Nat) : Nat × Int × Int × Int × Int := if ltr B L p = 109 then rpM B L (p + 1) else if ltr B L p = 99 then rpC B L (p + 1) else if ltr B L p = 121 then rpY B L (p + 1) else if ltr B L p = 112 then rpP B L (p + 1) else if ltr B L p = 98 then rpB B L (p + 1) else (p, 1, 0, 0, 0)
/-- what a part gives: where it ends, whether it is wrong, its numbers -/
def Rp (L p : Nat) (r : Nat × Int × Int × Int × Int) : Prop := p ≤ r.1 ∧ r.1 ≤ L ∧ (r.2.1 = 0 ∨ r.2.1 = 1)
section
variable {B : Nat → Int} {L p : Nat}
theorem Rd.tr {p q r : Nat} {w : Int} {t u : Nat × Int × Int} (h : Rd L p w t) (h' : Rd L t.1 t.2.1 u) : Rd L p w u := by
  obtain ⟨a1, a2, a3, a4, a5⟩ := h
  obtain ⟨b1, b2, b3, b4, b5⟩ := h'
  exact ⟨by omega, b2, b3, fun z => by have := a4 z; have := b4 (by omega); omega, fun z => by have := b5 z; omega⟩
theorem rpM_rd (hp : p ≤ L) : Rp L p (rpM B L p) ∧ (-50 ≤ (rpM B L p).2.2.1 ∧ (rpM B L p).2.2.1 ≤ 50) ∧ (-50 ≤ (rpM B L p).2.2.2.1 ∧ (rpM B L p).2.2.2.1 ≤ 50) ∧ (0 ≤ (rpM B L p).2.2.2.2 ∧ (rpM B L p).2.2.2.2 ≤ 3) := by
  have r1 := sgp_rd (B := B) (w := 0) hp 50 50
  have v1 := sgp_v (B := B) (w := 0) hp (low := 50) (most := 50) (by omega) (by omega)
  unfold rpM
  obtain ⟨t1, e1⟩ : ∃ t, t = sgp B L 50 50 p 0 := ⟨_, rfl⟩
  rw [← e1] at r1 v1 ⊢
  rw [bd_e]
  have r2 := tkp_rd (B := B) (w := t1.2.1) r1.2.1 44 44
  obtain ⟨t2, e2⟩ : ∃ t, t = tkp B L 44 44 t1.1 t1.2.1 := ⟨_, rfl⟩
  rw [← e2] at r2 ⊢
  rw [bd_e]
  have r3 := sgp_rd (B := B) (w := t2.2.1) r2.2.1 50 50
  have v3 := sgp_v (B := B) (w := t2.2.1) r2.2.1 (low := 50) (most := 50) (by omega) (by omega)
  obtain ⟨t3, e3⟩ : ∃ t, t = sgp B L 50 50 t2.1 t2.2.1 := ⟨_, rfl⟩
  rw [← e3] at r3 v3 ⊢
  rw [bd_e]
  have r4 := tkp_rd (B := B) (w := t3.2.1) r3.2.1 47 47
  obtain ⟨t4, e4⟩ : ∃ t, t = tkp B L 47 47 t3.1 t3.2.1 := ⟨_, rfl⟩
  rw [← e4] at r4 ⊢
  rw [bd_e]
  have r5 := tkp_rd (B := B) (w := t4.2.1) r4.2.1 48 51
  have v5 := tkp_v (B := B) (L := L) (p := t4.1) (w := t4.2.1) (lo := 48) (hi := 51) (by omega)
  obtain ⟨t5, e5⟩ : ∃ t, t = tkp B L 48 51 t4.1 t4.2.1 := ⟨_, rfl⟩
  rw [← e5] at r5 v5 ⊢
  rw [bd_e]
  exact ⟨⟨Nat.le_trans r1.1 (Nat.le_trans r2.1 (Nat.le_trans r3.1 (Nat.le_trans r4.1 r5.1))), r5.2.1, r5.2.2.1⟩, v1, v3, v5⟩
theorem rpC_rd (hp : p ≤ L) : Rp L p (rpC B L p) ∧ (0 ≤ (rpC B L p).2.2.1 ∧ (rpC B L p).2.2.1 ≤ 5) ∧ (0 ≤ (rpC B L p).2.2.2.1 ∧ (rpC B L p).2.2.2.1 ≤ 3) := by
  have r1 := tkp_rd (B := B) (w := 0) hp 48 53
  have v1 := tkp_v (B := B) (L := L) (p := p) (w := 0) (lo := 48) (hi := 53) (by omega)
  unfold rpC
  obtain ⟨t1, e1⟩ : ∃ t, t = tkp B L 48 53 p 0 := ⟨_, rfl⟩
  rw [← e1] at r1 v1 ⊢
  rw [bd_e]
  have r2 := tkp_rd (B := B) (w := t1.2.1) r1.2.1 58 58
  obtain ⟨t2, e2⟩ : ∃ t, t = tkp B L 58 58 t1.1 t1.2.1 := ⟨_, rfl⟩
  rw [← e2] at r2 ⊢
  rw [bd_e]
  have r3 := tkp_rd (B := B) (w := t2.2.1) r2.2.1 48 51
  have v3 := tkp_v (B := B) (L := L) (p := t2.1) (w := t2.2.1) (lo := 48) (hi := 51) (by omega)
  obtain ⟨t3, e3⟩ : ∃ t, t = tkp B L 48 51 t2.1 t2.2.1 := ⟨_, rfl⟩
  rw [← e3] at r3 v3 ⊢
  rw [bd_e]
  exact ⟨⟨Nat.le_trans r1.1 (Nat.le_trans r2.1 r3.1), r3.2.1, r3.2.2.1⟩, v1, v3⟩
theorem rpY_rd (hp : p ≤ L) : Rp L p (rpY B L p) ∧ (1 ≤ (rpY B L p).2.2.1 ∧ (rpY B L p).2.2.1 ≤ 20) := by
  have r1 := nmp_rd (B := B) (w := 0) hp 1 20
  have v1 := nmp_v (B := B) (w := 0) hp (least := 1) (most := 20) (Or.inr rfl) (by omega)
  exact ⟨⟨r1.1, r1.2.1, r1.2.2.1⟩, v1⟩
theorem rpP_rd (hp : p ≤ L) : Rp L p (rpP B L p) ∧ (0 ≤ (rpP B L p).2.2.1 ∧ (rpP B L p).2.2.1 ≤ 5) := by
  have r1 := tkp_rd (B := B) (w := 0) hp 48 53
  have v1 := tkp_v (B := B) (L := L) (p := p) (w := 0) (lo := 48) (hi := 53) (by omega)
  exact ⟨⟨r1.1, r1.2.1, r1.2.2.1⟩, v1⟩
theorem rpB_rd (hp : p ≤ L) : Rp L p (rpB B L p) ∧ (0 ≤ (rpB B L p).2.2.1 ∧ (rpB B L p).2.2.1 ≤ 3) ∧ (-400 ≤ (rpB B L p).2.2.2.1 ∧ (rpB B L p).2.2.2.1 ≤ 1500) := by
  have r1 := tkp_rd (B := B) (w := 0) hp 48 51
  have v1 := tkp_v (B := B) (L := L) (p := p) (w := 0) (lo := 48) (hi := 51) (by omega)
  unfold rpB
  obtain ⟨t1, e1⟩ : ∃ t, t = tkp B L 48 51 p 0 := ⟨_, rfl⟩
  rw [← e1] at r1 v1 ⊢
  rw [bd_e]
  have r2 := tkp_rd (B := B) (w := t1.2.1) r1.2.1 61 61
  obtain ⟨t2, e2⟩ : ∃ t, t = tkp B L 61 61 t1.1 t1.2.1 := ⟨_, rfl⟩
  rw [← e2] at r2 ⊢
  rw [bd_e]
  have r3 := sgp_rd (B := B) (w := t2.2.1) r2.2.1 400 1500
  have v3 := sgp_v (B := B) (w := t2.2.1) r2.2.1 (low := 400) (most := 1500) (by omega) (by omega)
  obtain ⟨t3, e3⟩ : ∃ t, t = sgp B L 400 1500 t2.1 t2.2.1 := ⟨_, rfl⟩
  rw [← e3] at r3 v3 ⊢
  rw [bd_e]
  exact ⟨⟨Nat.le_trans r1.1 (Nat.le_trans r2.1 r3.1), r3.2.1, r3.2.2.1⟩, v1, v3⟩
theorem ltr_lt {l : Int} (hl : l ≠ 0) (h : ltr B L p = l) : p < L ∧ B p = l := by
  unfold ltr at h
  by_cases c : p < L
  · rw [if_pos c] at h
    exact ⟨c, h⟩
  · rw [if_neg c] at h
    exact absurd h.symm hl
end
def T19 (o o1 : OM) : Prop := (∀ k i, k ≠ 19 → o1.1 k i = o.1 k i) ∧ o1.2 = o.2 ∧ ∀ j, j < 8 → rd o1 19 0 j = rd o 19 0 j
theorem T19.rf (o : OM) : T19 o o := ⟨fun _ _ _ => rfl, rfl, fun _ _ => rfl⟩
theorem T19.tr {o o1 o2 : OM} (h : T19 o o1) (h' : T19 o1 o2) : T19 o o2 := ⟨fun k i x => (h'.1 k i x).trans (h.1 k i x), h'.2.1.trans h.2.1, fun j x => (h'.2.2 j x).trans (h.2.2 j x)⟩
theorem T19.wr {o o1 : OM} {j : Nat} {v : Int32} (h : T19 o o1) (hj : 8 ≤ j) : T19 o (wr o1 19 0 j v) := ⟨fun k i x => (wr_ne _ _ (by omega)).trans (h.1 k i x), h.2.1, fun j' x => (rd_wj _ _ (by omega)).trans (h.2.2 j' x)⟩
theorem T8.t {o o1 : OM} (h : T8 o o1) : T19 o o1 := ⟨h.1, h.2.1, fun j x => h.2.2 j (by omega) (by omega)⟩
theorem MR.w {o : OM} {L : Nat} {B : Nat → Int} {p : Nat} {w : Int} (h : MR o L B p w) {j : Nat} (v : Int32) (hj : 10 ≤ j) : MR (wr o 19 0 j v) L B p w := ⟨h.1.c (rd_wj _ _ (by omega)) (wr_ne _ _ (by omega)), by rw [rd_wj _ _ (by omega)]; exact h.2.1, by rw [rd_wj _ _ (by omega)]; exact h.2.2⟩
def Nms (o : OM) (l : Int) (r : Nat × Int × Int × Int × Int) : Prop := (l = 109 → rd o 19 0 11 = I r.2.2.1 ∧ rd o 19 0 12 = I r.2.2.2.1 ∧ rd o 19 0 13 = I r.2.2.2.2) ∧ (l = 99 ∨ l = 98 → rd o 19 0 11 = I r.2.2.1 ∧ rd o 19 0 12 = I r.2.2.2.1) ∧ (l = 112 ∨ l = 121 → rd o 19 0 11 = I r.2.2.1)
section
variable {o : OM} {B : Nat → Int} {L p : Nat}
theorem mread_109 (h : MR o L B p 0) (hb : BB L B) (hl : ltr B L p = 109) : ∃ o1, F_X6_readPart o = some ((), o1) ∧ T19 o o1 ∧ MR o1 L B (rpS B L p).1 (rpS B L p).2.1 ∧ rd o1 19 0 10 = I 109 ∧ Nms o1 109 (rpS B L p) := by
  have hL := hb.1
  obtain ⟨hp, hBp⟩ := ltr_lt (by omega) hl
  have h7 := h.1.1
  have h8 := h.2.1
  have h9 := h.2.2
  have h23 := h.1.2 p hp
  rw [hBp] at h23
  have z0 : (0 : Int32) = I 0 := rfl
  have z1 : (1 : Int32) = I 1 := rfl
  obtain ⟨o6, ho6⟩ : ∃ o6, o6 = wr (wr (wr o 19 0 10 (I 109)) 19 0 9 (I 0)) 19 0 8 (I ((p : Int) + 1)) := ⟨_, rfl⟩
  have M6 : MR o6 L B (p + 1) 0 := by
    rw [ho6]
    exact ⟨((h.1.c (rd_wj _ _ (by omega)) (wr_ne _ _ (by omega))).c (rd_wj _ _ (by omega)) (wr_ne _ _ (by omega))).c (rd_wj _ _ (by omega)) (wr_ne _ _ (by omega)), rd_wr _ _ _ _ _, by rw [rd_wj _ _ (by omega), rd_wr]⟩
  have t6 : T19 o o6 := by
    rw [ho6]
    exact (((T19.rf o).wr (by omega)).wr (by omega)).wr (by omega)
  have l6 : rd o6 19 0 10 = I 109 := by rw [ho6, rd_wj _ _ (by omega), rd_wj _ _ (by omega), rd_wr]
  have es : rpS B L p = rpM B L (p + 1) := by
    unfold rpS
    rw [if_pos hl]
  rw [es]
  unfold F_X6_readPart
  rw [h7, h8, bd_e, if_neg (by rw [I_le (by omega) (by omega) (by omega) (by omega)]; omega), I_inB (a := (p : Int)) (by omega) (by omega) (by omega), grd_e, I_tcN (by omega), h23]
  dsimp only
  rw [bd_e, rd_wj _ _ (by omega), h9, bd_e, if_pos (by decide), rd_wr, if_pos (by decide), z0]
  dsimp only
  rw [isZ0, grd_e, bd_e, rd_wr, bd_e, if_pos rfl, z1]
  dsimp only
  rw [rd_wj _ _ (by omega), rd_wj _ _ (by omega), h8, I_add, bd_e, ← ho6, l6, bd_e, bd_e, if_neg (by decide), if_neg (by decide), if_pos (by decide)]
  unfold rpM
  obtain ⟨a1, e1, f1, m1⟩ := signed_e M6 hb (show p + 1 ≤ L by omega) (Or.inl rfl) (low := 50) (most := 50) (by omega) (by omega)
  have r1 := sgp_rd (B := B) (w := 0) (show p + 1 ≤ L by omega) 50 50
  obtain ⟨t1, g1⟩ : ∃ t, t = sgp B L 50 50 (p + 1) 0 := ⟨_, rfl⟩
  rw [← g1] at e1 m1 r1 ⊢
  rw [bd_e]
  obtain ⟨a2, e2, f2, m2⟩ := takes_e (m1.w (j := 11) (I t1.2.2) (by omega)) hb r1.2.1 r1.2.2.1 (lo := 44) (hi := 44) (by omega) (by omega)
  have r2 := tkp_rd (B := B) (w := t1.2.1) r1.2.1 44 44
  obtain ⟨t2, g2⟩ : ∃ t, t = tkp B L 44 44 t1.1 t1.2.1 := ⟨_, rfl⟩
  rw [← g2] at e2 m2 r2 ⊢
  rw [bd_e]
  obtain ⟨a3, e3, f3, m3⟩ := signed_e m2 hb r2.2.1 r2.2.2.1 (low := 50) (most := 50) (by omega) (by omega)
  have r3 := sgp_rd (B := B) (w := t2.2.1) r2.2.1 50 50
  obtain ⟨t3, g3⟩ : ∃ t, t = sgp B L 50 50 t2.1 t2.2.1 := ⟨_, rfl⟩
  rw [← g3] at e3 m3 r3 ⊢
  rw [bd_e]
  obtain ⟨a4, e4, f4, m4⟩ := takes_e (m3.w (j := 12) (I t3.2.2) (by omega)) hb r3.2.1 r3.2.2.1 (lo := 47) (hi := 47) (by omega) (by omega)
  have r4 := tkp_rd (B := B) (w := t3.2.1) r3.2.1 47 47
  obtain ⟨t4, g4⟩ : ∃ t, t = tkp B L 47 47 t3.1 t3.2.1 := ⟨_, rfl⟩
  rw [← g4] at e4 m4 r4 ⊢
  rw [bd_e]
  obtain ⟨a5, e5, f5, m5⟩ := takes_e m4 hb r4.2.1 r4.2.2.1 (lo := 48) (hi := 51) (by omega) (by omega)
  have r5 := tkp_rd (B := B) (w := t4.2.1) r4.2.1 48 51
  obtain ⟨t5, g5⟩ : ∃ t, t = tkp B L 48 51 t4.1 t4.2.1 := ⟨_, rfl⟩
  rw [← g5] at e5 m5 r5 ⊢
  rw [bd_e]
  refine ⟨(wr a5 19 0 13 (I t5.2.2)), ?_, ((((((((t6.tr f1.t).wr (j := 11) (v := I t1.2.2) (by omega)).tr f2.t).tr f3.t).wr (j := 12) (v := I t3.2.2) (by omega)).tr f4.t).tr f5.t).wr (j := 13) (v := I t5.2.2) (by omega)), (m5.w (j := 13) (I t5.2.2) (by omega)), by rw [rd_wj _ _ (by omega), f5.2.2 10 (by omega) (by omega), f4.2.2 10 (by omega) (by omega), rd_wj _ _ (by omega), f3.2.2 10 (by omega) (by omega), f2.2.2 10 (by omega) (by omega), rd_wj _ _ (by omega), f1.2.2 10 (by omega) (by omega), l6], ⟨fun _ => ⟨by rw [rd_wj _ _ (by omega), f5.2.2 11 (by omega) (by omega), f4.2.2 11 (by omega) (by omega), rd_wj _ _ (by omega), f3.2.2 11 (by omega) (by omega), f2.2.2 11 (by omega) (by omega), rd_wr], by rw [rd_wj _ _ (by omega), f5.2.2 12 (by omega) (by omega), f4.2.2 12 (by omega) (by omega), rd_wr], by rw [rd_wr]⟩, fun z => by omega, fun z => by omega⟩⟩
  simp only [I_lit]
  rw [e1, bn_e, bd_e, e2, bn_e, e3, bn_e, bd_e, e4, bn_e, e5, bn_e, bd_e]
theorem mread_99 (h : MR o L B p 0) (hb : BB L B) (hl : ltr B L p = 99) : ∃ o1, F_X6_readPart o = some ((), o1) ∧ T19 o o1 ∧ MR o1 L B (rpS B L p).1 (rpS B L p).2.1 ∧ rd o1 19 0 10 = I 99 ∧ Nms o1 99 (rpS B L p) := by
  have hL := hb.1
  obtain ⟨hp, hBp⟩ := ltr_lt (by omega) hl
  have h7 := h.1.1
  have h8 := h.2.1
  have h9 := h.2.2
  have h23 := h.1.2 p hp
  rw [hBp] at h23
  have z0 : (0 : Int32) = I 0 := rfl
  have z1 : (1 : Int32) = I 1 := rfl
  obtain ⟨o6, ho6⟩ : ∃ o6, o6 = wr (wr (wr o 19 0 10 (I 99)) 19 0 9 (I 0)) 19 0 8 (I ((p : Int) + 1)) := ⟨_, rfl⟩
  have M6 : MR o6 L B (p + 1) 0 := by
    rw [ho6]
    exact ⟨((h.1.c (rd_wj _ _ (by omega)) (wr_ne _ _ (by omega))).c (rd_wj _ _ (by omega)) (wr_ne _ _ (by omega))).c (rd_wj _ _ (by omega)) (wr_ne _ _ (by omega)), rd_wr _ _ _ _ _, by rw [rd_wj _ _ (by omega), rd_wr]⟩
  have t6 : T19 o o6 := by
    rw [ho6]
    exact (((T19.rf o).wr (by omega)).wr (by omega)).wr (by omega)
  have l6 : rd o6 19 0 10 = I 99 := by rw [ho6, rd_wj _ _ (by omega), rd_wj _ _ (by omega), rd_wr]
  have es : rpS B L p = rpC B L (p + 1) := by
    unfold rpS
    rw [if_neg (by rw [hl]; omega), if_pos hl]
  rw [es]
  unfold F_X6_readPart
  rw [h7, h8, bd_e, if_neg (by rw [I_le (by omega) (by omega) (by omega) (by omega)]; omega), I_inB (a := (p : Int)) (by omega) (by omega) (by omega), grd_e, I_tcN (by omega), h23]
  dsimp only
  rw [bd_e, rd_wj _ _ (by omega), h9, bd_e, if_pos (by decide), rd_wr, if_neg (by decide), if_pos (by decide), z0]
  dsimp only
  rw [isZ0, grd_e, bd_e, rd_wr, bd_e, if_pos rfl, z1]
  dsimp only
  rw [rd_wj _ _ (by omega), rd_wj _ _ (by omega), h8, I_add, bd_e, ← ho6, l6, bd_e, bd_e, if_neg (by decide), if_pos (by decide)]
  unfold rpC
  obtain ⟨a1, e1, f1, m1⟩ := takes_e M6 hb (show p + 1 ≤ L by omega) (Or.inl rfl) (lo := 48) (hi := 53) (by omega) (by omega)
  have r1 := tkp_rd (B := B) (w := 0) (show p + 1 ≤ L by omega) 48 53
  obtain ⟨t1, g1⟩ : ∃ t, t = tkp B L 48 53 (p + 1) 0 := ⟨_, rfl⟩
  rw [← g1] at e1 m1 r1 ⊢
  rw [bd_e]
  obtain ⟨a2, e2, f2, m2⟩ := takes_e (m1.w (j := 11) (I t1.2.2) (by omega)) hb r1.2.1 r1.2.2.1 (lo := 58) (hi := 58) (by omega) (by omega)
  have r2 := tkp_rd (B := B) (w := t1.2.1) r1.2.1 58 58
  obtain ⟨t2, g2⟩ : ∃ t, t = tkp B L 58 58 t1.1 t1.2.1 := ⟨_, rfl⟩
  rw [← g2] at e2 m2 r2 ⊢
  rw [bd_e]
  obtain ⟨a3, e3, f3, m3⟩ := takes_e m2 hb r2.2.1 r2.2.2.1 (lo := 48) (hi := 51) (by omega) (by omega)
  have r3 := tkp_rd (B := B) (w := t2.2.1) r2.2.1 48 51
  obtain ⟨t3, g3⟩ : ∃ t, t = tkp B L 48 51 t2.1 t2.2.1 := ⟨_, rfl⟩
  rw [← g3] at e3 m3 r3 ⊢
  rw [bd_e]
  refine ⟨(wr a3 19 0 12 (I t3.2.2)), ?_, (((((t6.tr f1.t).wr (j := 11) (v := I t1.2.2) (by omega)).tr f2.t).tr f3.t).wr (j := 12) (v := I t3.2.2) (by omega)), (m3.w (j := 12) (I t3.2.2) (by omega)), by rw [rd_wj _ _ (by omega), f3.2.2 10 (by omega) (by omega), f2.2.2 10 (by omega) (by omega), rd_wj _ _ (by omega), f1.2.2 10 (by omega) (by omega), l6], ⟨fun z => by omega, fun _ => ⟨by rw [rd_wj _ _ (by omega), f3.2.2 11 (by omega) (by omega), f2.2.2 11 (by omega) (by omega), rd_wr], by rw [rd_wr]⟩, fun z => by omega⟩⟩
  simp only [I_lit]
  rw [e1, bn_e, bd_e, e2, bn_e, e3, bn_e, bd_e]
theorem mread_121 (h : MR o L B p 0) (hb : BB L B) (hl : ltr B L p = 121) : ∃ o1, F_X6_readPart o = some ((), o1) ∧ T19 o o1 ∧ MR o1 L B (rpS B L p).1 (rpS B L p).2.1 ∧ rd o1 19 0 10 = I 121 ∧ Nms o1 121 (rpS B L p) := by
  have hL := hb.1
  obtain ⟨hp, hBp⟩ := ltr_lt (by omega) hl
  have h7 := h.1.1
  have h8 := h.2.1
  have h9 := h.2.2
  have h23 := h.1.2 p hp
  rw [hBp] at h23
  have z0 : (0 : Int32) = I 0 := rfl
  have z1 : (1 : Int32) = I 1 := rfl
  obtain ⟨o6, ho6⟩ : ∃ o6, o6 = wr (wr (wr o 19 0 10 (I 121)) 19 0 9 (I 0)) 19 0 8 (I ((p : Int) + 1)) := ⟨_, rfl⟩
  have M6 : MR o6 L B (p + 1) 0 := by
    rw [ho6]
    exact ⟨((h.1.c (rd_wj _ _ (by omega)) (wr_ne _ _ (by omega))).c (rd_wj _ _ (by omega)) (wr_ne _ _ (by omega))).c (rd_wj _ _ (by omega)) (wr_ne _ _ (by omega)), rd_wr _ _ _ _ _, by rw [rd_wj _ _ (by omega), rd_wr]⟩
  have t6 : T19 o o6 := by
    rw [ho6]
    exact (((T19.rf o).wr (by omega)).wr (by omega)).wr (by omega)
  have l6 : rd o6 19 0 10 = I 121 := by rw [ho6, rd_wj _ _ (by omega), rd_wj _ _ (by omega), rd_wr]
  have es : rpS B L p = rpY B L (p + 1) := by
    unfold rpS
    rw [if_neg (by rw [hl]; omega), if_neg (by rw [hl]; omega), if_pos hl]
  rw [es]
  unfold F_X6_readPart
  rw [h7, h8, bd_e, if_neg (by rw [I_le (by omega) (by omega) (by omega) (by omega)]; omega), I_inB (a := (p : Int)) (by omega) (by omega) (by omega), grd_e, I_tcN (by omega), h23]
  dsimp only
  rw [bd_e, rd_wj _ _ (by omega), h9, bd_e, if_pos (by decide), rd_wr, if_neg (by decide), if_neg (by decide), if_pos (by decide), z0]
  dsimp only
  rw [isZ0, grd_e, bd_e, rd_wr, bd_e, if_pos rfl, z1]
  dsimp only
  rw [rd_wj _ _ (by omega), rd_wj _ _ (by omega), h8, I_add, bd_e, ← ho6, l6, bd_e, bd_e, if_neg (by decide), if_neg (by decide), if_neg (by decide), if_neg (by decide), if_pos (by decide)]
  unfold rpY
  obtain ⟨a1, e1, f1, m1⟩ := number_e M6 hb (show p + 1 ≤ L by omega) (Or.inl rfl) (least := 1) (most := 20) (Or.inr rfl) (by omega)
  have r1 := nmp_rd (B := B) (w := 0) (show p + 1 ≤ L by omega) 1 20
  obtain ⟨t1, g1⟩ : ∃ t, t = nmp B L 1 20 (p + 1) 0 := ⟨_, rfl⟩
  rw [← g1] at e1 m1 r1 ⊢
  rw [bd_e]
  refine ⟨(wr a1 19 0 11 (I t1.2.2)), ?_, ((t6.tr f1.t).wr (j := 11) (v := I t1.2.2) (by omega)), (m1.w (j := 11) (I t1.2.2) (by omega)), by rw [rd_wj _ _ (by omega), f1.2.2 10 (by omega) (by omega), l6], ⟨fun z => by omega, fun z => by omega, fun _ => by rw [rd_wr]⟩⟩
  simp only [I_lit]
  rw [e1, bn_e, bd_e]
theorem mread_112 (h : MR o L B p 0) (hb : BB L B) (hl : ltr B L p = 112) : ∃ o1, F_X6_readPart o = some ((), o1) ∧ T19 o o1 ∧ MR o1 L B (rpS B L p).1 (rpS B L p).2.1 ∧ rd o1 19 0 10 = I 112 ∧ Nms o1 112 (rpS B L p) := by
  have hL := hb.1
  obtain ⟨hp, hBp⟩ := ltr_lt (by omega) hl
  have h7 := h.1.1
  have h8 := h.2.1
  have h9 := h.2.2
  have h23 := h.1.2 p hp
  rw [hBp] at h23
  have z0 : (0 : Int32) = I 0 := rfl
  have z1 : (1 : Int32) = I 1 := rfl
  obtain ⟨o6, ho6⟩ : ∃ o6, o6 = wr (wr (wr o 19 0 10 (I 112)) 19 0 9 (I 0)) 19 0 8 (I ((p : Int) + 1)) := ⟨_, rfl⟩
  have M6 : MR o6 L B (p + 1) 0 := by
    rw [ho6]
    exact ⟨((h.1.c (rd_wj _ _ (by omega)) (wr_ne _ _ (by omega))).c (rd_wj _ _ (by omega)) (wr_ne _ _ (by omega))).c (rd_wj _ _ (by omega)) (wr_ne _ _ (by omega)), rd_wr _ _ _ _ _, by rw [rd_wj _ _ (by omega), rd_wr]⟩
  have t6 : T19 o o6 := by
    rw [ho6]
    exact (((T19.rf o).wr (by omega)).wr (by omega)).wr (by omega)
  have l6 : rd o6 19 0 10 = I 112 := by rw [ho6, rd_wj _ _ (by omega), rd_wj _ _ (by omega), rd_wr]
  have es : rpS B L p = rpP B L (p + 1) := by
    unfold rpS
    rw [if_neg (by rw [hl]; omega), if_neg (by rw [hl]; omega), if_neg (by rw [hl]; omega), if_pos hl]
  rw [es]
  unfold F_X6_readPart
  rw [h7, h8, bd_e, if_neg (by rw [I_le (by omega) (by omega) (by omega) (by omega)]; omega), I_inB (a := (p : Int)) (by omega) (by omega) (by omega), grd_e, I_tcN (by omega), h23]
  dsimp only
  rw [bd_e, rd_wj _ _ (by omega), h9, bd_e, if_pos (by decide), rd_wr, if_neg (by decide), if_neg (by decide), if_neg (by decide), if_pos (by decide), z0]
  dsimp only
  rw [isZ0, grd_e, bd_e, rd_wr, bd_e, if_pos rfl, z1]
  dsimp only
  rw [rd_wj _ _ (by omega), rd_wj _ _ (by omega), h8, I_add, bd_e, ← ho6, l6, bd_e, bd_e, if_neg (by decide), if_neg (by decide), if_neg (by decide), if_pos (by decide)]
  unfold rpP
  obtain ⟨a1, e1, f1, m1⟩ := takes_e M6 hb (show p + 1 ≤ L by omega) (Or.inl rfl) (lo := 48) (hi := 53) (by omega) (by omega)
  have r1 := tkp_rd (B := B) (w := 0) (show p + 1 ≤ L by omega) 48 53
  obtain ⟨t1, g1⟩ : ∃ t, t = tkp B L 48 53 (p + 1) 0 := ⟨_, rfl⟩
  rw [← g1] at e1 m1 r1 ⊢
  rw [bd_e]
  refine ⟨(wr a1 19 0 11 (I t1.2.2)), ?_, ((t6.tr f1.t).wr (j := 11) (v := I t1.2.2) (by omega)), (m1.w (j := 11) (I t1.2.2) (by omega)), by rw [rd_wj _ _ (by omega), f1.2.2 10 (by omega) (by omega), l6], ⟨fun z => by omega, fun z => by omega, fun _ => by rw [rd_wr]⟩⟩
  simp only [I_lit]
  rw [e1, bn_e, bd_e]
theorem mread_98 (h : MR o L B p 0) (hb : BB L B) (hl : ltr B L p = 98) : ∃ o1, F_X6_readPart o = some ((), o1) ∧ T19 o o1 ∧ MR o1 L B (rpS B L p).1 (rpS B L p).2.1 ∧ rd o1 19 0 10 = I 98 ∧ Nms o1 98 (rpS B L p) := by
  have hL := hb.1
  obtain ⟨hp, hBp⟩ := ltr_lt (by omega) hl
  have h7 := h.1.1
  have h8 := h.2.1
  have h9 := h.2.2
  have h23 := h.1.2 p hp
  rw [hBp] at h23
  have z0 : (0 : Int32) = I 0 := rfl
  have z1 : (1 : Int32) = I 1 := rfl
  obtain ⟨o6, ho6⟩ : ∃ o6, o6 = wr (wr (wr o 19 0 10 (I 98)) 19 0 9 (I 0)) 19 0 8 (I ((p : Int) + 1)) := ⟨_, rfl⟩
  have M6 : MR o6 L B (p + 1) 0 := by
    rw [ho6]
    exact ⟨((h.1.c (rd_wj _ _ (by omega)) (wr_ne _ _ (by omega))).c (rd_wj _ _ (by omega)) (wr_ne _ _ (by omega))).c (rd_wj _ _ (by omega)) (wr_ne _ _ (by omega)), rd_wr _ _ _ _ _, by rw [rd_wj _ _ (by omega), rd_wr]⟩
  have t6 : T19 o o6 := by
    rw [ho6]
    exact (((T19.rf o).wr (by omega)).wr (by omega)).wr (by omega)
  have l6 : rd o6 19 0 10 = I 98 := by rw [ho6, rd_wj _ _ (by omega), rd_wj _ _ (by omega), rd_wr]
  have es : rpS B L p = rpB B L (p + 1) := by
    unfold rpS
    rw [if_neg (by rw [hl]; omega), if_neg (by rw [hl]; omega), if_neg (by rw [hl]; omega), if_neg (by rw [hl]; omega), if_pos hl]
  rw [es]
  unfold F_X6_readPart
  rw [h7, h8, bd_e, if_neg (by rw [I_le (by omega) (by omega) (by omega) (by omega)]; omega), I_inB (a := (p : Int)) (by omega) (by omega) (by omega), grd_e, I_tcN (by omega), h23]
  dsimp only
  rw [bd_e, rd_wj _ _ (by omega), h9, bd_e, if_pos (by decide), rd_wr, if_neg (by decide), if_neg (by decide), if_neg (by decide), if_neg (by decide), if_pos (by decide), z0]
  dsimp only
  rw [isZ0, grd_e, bd_e, rd_wr, bd_e, if_pos rfl, z1]
  dsimp only
  rw [rd_wj _ _ (by omega), rd_wj _ _ (by omega), h8, I_add, bd_e, ← ho6, l6, bd_e, bd_e, if_pos (by decide)]
  unfold rpB
  obtain ⟨a1, e1, f1, m1⟩ := takes_e M6 hb (show p + 1 ≤ L by omega) (Or.inl rfl) (lo := 48) (hi := 51) (by omega) (by omega)
  have r1 := tkp_rd (B := B) (w := 0) (show p + 1 ≤ L by omega) 48 51
  obtain ⟨t1, g1⟩ : ∃ t, t = tkp B L 48 51 (p + 1) 0 := ⟨_, rfl⟩
  rw [← g1] at e1 m1 r1 ⊢
  rw [bd_e]
  obtain ⟨a2, e2, f2, m2⟩ := takes_e (m1.w (j := 11) (I t1.2.2) (by omega)) hb r1.2.1 r1.2.2.1 (lo := 61) (hi := 61) (by omega) (by omega)
  have r2 := tkp_rd (B := B) (w := t1.2.1) r1.2.1 61 61
  obtain ⟨t2, g2⟩ : ∃ t, t = tkp B L 61 61 t1.1 t1.2.1 := ⟨_, rfl⟩
  rw [← g2] at e2 m2 r2 ⊢
  rw [bd_e]
  obtain ⟨a3, e3, f3, m3⟩ := signed_e m2 hb r2.2.1 r2.2.2.1 (low := 400) (most := 1500) (by omega) (by omega)
  have r3 := sgp_rd (B := B) (w := t2.2.1) r2.2.1 400 1500
  obtain ⟨t3, g3⟩ : ∃ t, t = sgp B L 400 1500 t2.1 t2.2.1 := ⟨_, rfl⟩
  rw [← g3] at e3 m3 r3 ⊢
  rw [bd_e]
  refine ⟨(wr a3 19 0 12 (I t3.2.2)), ?_, (((((t6.tr f1.t).wr (j := 11) (v := I t1.2.2) (by omega)).tr f2.t).tr f3.t).wr (j := 12) (v := I t3.2.2) (by omega)), (m3.w (j := 12) (I t3.2.2) (by omega)), by rw [rd_wj _ _ (by omega), f3.2.2 10 (by omega) (by omega), f2.2.2 10 (by omega) (by omega), rd_wj _ _ (by omega), f1.2.2 10 (by omega) (by omega), l6], ⟨fun z => by omega, fun _ => ⟨by rw [rd_wj _ _ (by omega), f3.2.2 11 (by omega) (by omega), f2.2.2 11 (by omega) (by omega), rd_wr], by rw [rd_wr]⟩, fun z => by omega⟩⟩
  simp only [I_lit]
  rw [e1, bn_e, bd_e, e2, bn_e, e3, bn_e, bd_e]
theorem mread_0 (h : MR o L B p 0) (hb : BB L B) (hp : p ≤ L) (hl : ltr B L p ≠ 109 ∧ ltr B L p ≠ 99 ∧ ltr B L p ≠ 121 ∧ ltr B L p ≠ 112 ∧ ltr B L p ≠ 98) : ∃ o1, F_X6_readPart o = some ((), o1) ∧ T19 o o1 ∧ MR o1 L B (rpS B L p).1 (rpS B L p).2.1 ∧ rd o1 19 0 10 = I (ltr B L p) ∧ Nms o1 (ltr B L p) (rpS B L p) := by
  have hL := hb.1
  have h7 := h.1.1
  have h8 := h.2.1
  have h9 := h.2.2
  have z0 : (0 : Int32) = I 0 := rfl
  have z1 : (1 : Int32) = I 1 := rfl
  have rl : 0 ≤ ltr B L p ∧ ltr B L p ≤ 126 := by
    unfold ltr
    split
    · rename_i c
      have := hb.2 p c
      omega
    · omega
  have es : rpS B L p = (p, 1, 0, 0, 0) := by
    unfold rpS
    rw [if_neg hl.1, if_neg hl.2.1, if_neg hl.2.2.1, if_neg hl.2.2.2.1, if_neg hl.2.2.2.2]
  rw [es]
  obtain ⟨l, hle⟩ : ∃ l, l = ltr B L p := ⟨_, rfl⟩
  rw [← hle] at hl rl ⊢
  have ne : ∀ k : Int, 0 ≤ k → k ≤ 200 → l ≠ k → ¬ (I l = I k) := fun k h1 h2 h3 z => h3 (I_inj (by omega) (by omega) (by omega) (by omega) z)
  obtain ⟨o6, ho6⟩ : ∃ o6, o6 = wr (wr (wr o 19 0 10 (I l)) 19 0 9 (I 1)) 19 0 8 (I ((p : Int) + 0)) := ⟨_, rfl⟩
  have M6 : MR o6 L B p 1 := by
    rw [ho6]
    exact ⟨((h.1.c (rd_wj _ _ (by omega)) (wr_ne _ _ (by omega))).c (rd_wj _ _ (by omega)) (wr_ne _ _ (by omega))).c (rd_wj _ _ (by omega)) (wr_ne _ _ (by omega)), by rw [rd_wr, Int.add_zero], by rw [rd_wj _ _ (by omega), rd_wr]⟩
  have t6 : T19 o o6 := by
    rw [ho6]
    exact (((T19.rf o).wr (by omega)).wr (by omega)).wr (by omega)
  have l6 : rd o6 19 0 10 = I l := by rw [ho6, rd_wj _ _ (by omega), rd_wj _ _ (by omega), rd_wr]
  refine ⟨wr o6 19 0 11 (I 0), ?_, t6.wr (by omega), M6.w _ (by omega), by rw [rd_wj _ _ (by omega)]; exact l6, ⟨fun z => absurd z hl.1, fun z => by omega, fun z => by omega⟩⟩
  unfold F_X6_readPart
  simp only [I_lit]
  rw [h7, h8, bd_e]
  by_cases c : p < L
  · rw [if_neg (by rw [I_le (by omega) (by omega) (by omega) (by omega)]; omega), I_inB (a := (p : Int)) (by omega) (by omega) (by omega), grd_e, I_tcN (by omega), h.1.2 p c, show B p = l from by rw [hle]; unfold ltr; rw [if_pos c]]
    dsimp only
    rw [bd_e, rd_wj _ _ (by omega), h9, bd_e, if_pos rfl, rd_wr, if_neg (ne 109 (by omega) (by omega) hl.1), if_neg (ne 99 (by omega) (by omega) hl.2.1), if_neg (ne 121 (by omega) (by omega) hl.2.2.1), if_neg (ne 112 (by omega) (by omega) hl.2.2.2.1), if_neg (ne 98 (by omega) (by omega) hl.2.2.2.2)]
    dsimp only
    rw [isZ1, grd_e, bd_e, rd_wr, bd_e, if_neg (by decide)]
    dsimp only
    rw [rd_wj _ _ (by omega), rd_wj _ _ (by omega), h8, I_add, bd_e, ← ho6, l6, bd_e, bd_e, if_neg (ne 98 (by omega) (by omega) hl.2.2.2.2), if_neg (ne 99 (by omega) (by omega) hl.2.1), if_neg (ne 109 (by omega) (by omega) hl.1), if_neg (ne 112 (by omega) (by omega) hl.2.2.2.1), if_neg (ne 121 (by omega) (by omega) hl.2.2.1), bd_e]
  · have hl0 : l = 0 := by rw [hle]; unfold ltr; rw [if_neg c]
    rw [if_pos (by rw [I_le (by omega) (by omega) (by omega) (by omega)]; omega)]
    subst hl0
    dsimp only
    rw [bd_e, rd_wj _ _ (by omega), h9, bd_e, if_pos rfl, rd_wr, if_neg (ne 109 (by omega) (by omega) hl.1), if_neg (ne 99 (by omega) (by omega) hl.2.1), if_neg (ne 121 (by omega) (by omega) hl.2.2.1), if_neg (ne 112 (by omega) (by omega) hl.2.2.2.1), if_neg (ne 98 (by omega) (by omega) hl.2.2.2.2)]
    dsimp only
    rw [isZ1, grd_e, bd_e, rd_wr, bd_e, if_neg (by decide)]
    dsimp only
    rw [rd_wj _ _ (by omega), rd_wj _ _ (by omega), h8, I_add, bd_e, ← ho6, l6, bd_e, bd_e, if_neg (ne 98 (by omega) (by omega) hl.2.2.2.2), if_neg (ne 99 (by omega) (by omega) hl.2.1), if_neg (ne 109 (by omega) (by omega) hl.1), if_neg (ne 112 (by omega) (by omega) hl.2.2.2.1), if_neg (ne 121 (by omega) (by omega) hl.2.2.1), bd_e]
theorem mread_e (h : MR o L B p 0) (hb : BB L B) (hp : p ≤ L) : ∃ o1, F_X6_readPart o = some ((), o1) ∧ T19 o o1 ∧ MR o1 L B (rpS B L p).1 (rpS B L p).2.1 ∧ rd o1 19 0 10 = I (ltr B L p) ∧ Nms o1 (ltr B L p) (rpS B L p) := by
  by_cases c1 : ltr B L p = 109
  · rw [c1]; exact mread_109 h hb c1
  · by_cases c2 : ltr B L p = 99
    · rw [c2]; exact mread_99 h hb c2
    · by_cases c3 : ltr B L p = 121
      · rw [c3]; exact mread_121 h hb c3
      · by_cases c4 : ltr B L p = 112
        · rw [c4]; exact mread_112 h hb c4
        · by_cases c5 : ltr B L p = 98
          · rw [c5]; exact mread_98 h hb c5
          · exact mread_0 h hb hp ⟨c1, c2, c3, c4, c5⟩
end
