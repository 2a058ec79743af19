/-! the whole text, read by both -/
def gwS (B : Nat → Int) (L : Nat) : Nat → Nat → Nat × Int
  | 0, p => (p, 1)
  | n + 1, p => if (rpS B L p).2.1 = 0 then (if L ≤ (rpS B L p).1 then ((rpS B L p).1, 0) else if B (rpS B L p).1 = 59 then gwS B L n ((rpS B L p).1 + 1) else ((rpS B L p).1, 1)) else ((rpS B L p).1, 1)
section
variable {o : OM} {B : Nat → Int} {L p : Nat}
theorem Rp.s {r : Nat × Int × Int × Int × Int} (h : Rp L (p + 1) r) : Rp L p r := ⟨by have := h.1; omega, h.2⟩
theorem rpS_rd (hp : p ≤ L) : Rp L p (rpS B L p) ∧ ((rpS B L p).2.1 = 0 → p < L) := by
  unfold rpS
  by_cases c1 : ltr B L p = 109
  · have h := ltr_lt (by omega) c1
    rw [if_pos c1]; exact ⟨(rpM_rd (show p + 1 ≤ L by omega)).1.s, fun _ => h.1⟩
  · rw [if_neg c1]
    by_cases c2 : ltr B L p = 99
    · have h := ltr_lt (by omega) c2
      rw [if_pos c2]; exact ⟨(rpC_rd (show p + 1 ≤ L by omega)).1.s, fun _ => h.1⟩
    · rw [if_neg c2]
      by_cases c3 : ltr B L p = 121
      · have h := ltr_lt (by omega) c3
        rw [if_pos c3]; exact ⟨(rpY_rd (show p + 1 ≤ L by omega)).1.s, fun _ => h.1⟩
      · rw [if_neg c3]
        by_cases c4 : ltr B L p = 112
        · have h := ltr_lt (by omega) c4
          rw [if_pos c4]; exact ⟨(rpP_rd (show p + 1 ≤ L by omega)).1.s, fun _ => h.1⟩
        · rw [if_neg c4]
          by_cases c5 : ltr B L p = 98
          · have h := ltr_lt (by omega) c5
            rw [if_pos c5]; exact ⟨(rpB_rd (show p + 1 ≤ L by omega)).1.s, fun _ => h.1⟩
          · rw [if_neg c5]
            exact ⟨⟨Nat.le_refl _, hp, Or.inr rfl⟩, fun z => absurd z (by show ¬ ((1 : Int) = 0); omega)⟩
theorem gwS_rd : ∀ n p : Nat, p ≤ L → ((gwS B L n p).2 = 0 ∨ (gwS B L n p).2 = 1) ∧ ((gwS B L n p).2 = 0 → (gwS B L n p).1 = L) ∧ (gwS B L n p).1 ≤ L
  | 0, p, hp => ⟨Or.inr rfl, fun z => absurd z (by show ¬ ((1 : Int) = 0); omega), hp⟩
  | n + 1, p, hp => by
    obtain ⟨⟨h1, h2, h3⟩, h4⟩ := rpS_rd (B := B) hp
    have ih := gwS_rd n ((rpS B L p).1 + 1)
    unfold gwS
    by_cases c1 : (rpS B L p).2.1 = 0
    · rw [if_pos c1]
      by_cases c2 : L ≤ (rpS B L p).1
      · rw [if_pos c2]
        exact ⟨Or.inl rfl, fun _ => by show (rpS B L p).1 = L; omega, h2⟩
      · rw [if_neg c2]
        by_cases c3 : B (rpS B L p).1 = 59
        · rw [if_pos c3]
          exact ih (by omega)
        · rw [if_neg c3]
          exact ⟨Or.inr rfl, fun z => absurd z (by show ¬ ((1 : Int) = 0); omega), h2⟩
    · rw [if_neg c1]
      exact ⟨Or.inr rfl, fun z => absurd z (by show ¬ ((1 : Int) = 0); omega), h2⟩
theorem gwS_1 (n : Nat) (h : (rpS B L p).2.1 ≠ 0) : gwS B L (n + 1) p = ((rpS B L p).1, 1) := if_neg h
theorem gwS_2 (n : Nat) (h : (rpS B L p).2.1 = 0) (h2 : L ≤ (rpS B L p).1) : gwS B L (n + 1) p = ((rpS B L p).1, 0) := (if_pos h).trans (if_pos h2)
theorem gwS_3 (n : Nat) (h : (rpS B L p).2.1 = 0) (h2 : ¬ L ≤ (rpS B L p).1) (h3 : B (rpS B L p).1 = 59) : gwS B L (n + 1) p = gwS B L n ((rpS B L p).1 + 1) := ((if_pos h).trans (if_neg h2)).trans (if_pos h3)
theorem gwS_4 (n : Nat) (h : (rpS B L p).2.1 = 0) (h2 : ¬ L ≤ (rpS B L p).1) (h3 : ¬ B (rpS B L p).1 = 59) : gwS B L (n + 1) p = ((rpS B L p).1, 1) := ((if_pos h).trans (if_neg h2)).trans (if_neg h3)
theorem go_end (kk : OM → Int32 → Option (Int32 × OM)) (v1 : Int32) (fuel : Nat) (o : OM) (c : Int32) : LX6_goesThrough_14 kk v1 (fuel + 1) o c (I 0) = kk o c := by
  rw [LX6_goesThrough_14.eq_2]
  dsimp only
  rw [if_pos (show I 0 = 0 from rfl)]
theorem go_loop (hb : BB L B) (kk : OM → Int32 → Option (Int32 × OM)) : ∀ (n fuel p : Nat) (o : OM) (c : Int), n + 1 < fuel → L < n + p → p ≤ L → MR o L B p 0 → ∃ o1 c', LX6_goesThrough_14 kk (I 0) fuel o (I c) (I 1) = kk o1 (I c') ∧ T19 o o1 ∧ MR o1 L B (gwS B L n p).1 (gwS B L n p).2 := by
  have hL := hb.1
  intro n
  induction n with
  | zero => intro fuel p o c h1 h2; omega
  | succ n ih =>
    intro fuel p o c h1 h2 hp h
    obtain ⟨f, rfl⟩ : ∃ f, fuel = f + 2 := ⟨fuel - 2, by omega⟩
    obtain ⟨o9, e9, t9, m9, l9, n9⟩ := mread_e h hb hp
    obtain ⟨⟨r1, r2, r3⟩, r4⟩ := rpS_rd (B := B) hp
    have q9 := m9.2.2
    have q7 := m9.1.1
    have q8 := m9.2.1
    rw [LX6_goesThrough_14.eq_2]
    simp only [I_lit]
    rw [if_neg (by decide), e9, bn_e, bd_e, if_pos trivial]
    dsimp only
    rw [bd_e, if_pos (by decide)]
    dsimp only
    rw [bd_e, bd_e, q9]
    by_cases c1 : (rpS B L p).2.1 = 0
    · rw [c1, if_pos rfl, if_pos rfl]
      dsimp only
      rw [bd_e, bd_e, if_neg (by decide), if_pos trivial]
      dsimp only
      rw [bd_e, if_neg (by decide)]
      dsimp only
      rw [I_add, bd_e, bd_e, bd_e, if_neg (by decide), q7, q8]
      by_cases c2 : L ≤ (rpS B L p).1
      · rw [gwS_2 n c1 c2, if_pos (by rw [I_le (by omega) (by omega) (by omega) (by omega)]; omega)]
        dsimp only
        rw [bd_e, if_pos rfl]
        dsimp only
        rw [go_end]
        rw [c1] at m9
        exact ⟨o9, c + 1, rfl, t9, m9⟩
      · rw [if_neg (by rw [I_le (by omega) (by omega) (by omega) (by omega)]; omega)]
        dsimp only
        rw [c1] at m9
        obtain ⟨o21, e21, t21, m21⟩ := takes_e m9 hb r2 (Or.inl rfl) (lo := 59) (hi := 59) (by omega) (by omega)
        have w9 := m21.2.2
        rw [bd_e, if_neg (by decide), e21, bn_e, bd_e, w9]
        by_cases c3 : B (rpS B L p).1 = 59
        · have k := tkp_y (B := B) (L := L) (p := (rpS B L p).1) (w := 0) (lo := 59) (hi := 59) ⟨rfl, by omega, by omega, by omega⟩
          rw [k] at m21 ⊢
          have m21 : MR o21 L B ((rpS B L p).1 + 1) 0 := m21
          dsimp only
          rw [if_pos rfl, gwS_3 n c1 c2 c3]
          obtain ⟨o1, c', e1, t1, m1⟩ := ih (f + 1) ((rpS B L p).1 + 1) o21 (c + 1) (by omega) (by omega) (by omega) m21
          exact ⟨o1, c', e1, (t9.tr t21.t).tr t1, m1⟩
        · have k := tkp_n (B := B) (L := L) (p := (rpS B L p).1) (w := 0) (lo := 59) (hi := 59) (fun z => c3 (by omega))
          rw [k] at m21 ⊢
          have m21 : MR o21 L B (rpS B L p).1 1 := m21
          dsimp only
          rw [if_neg (by decide), gwS_4 n c1 c2 c3, go_end]
          exact ⟨o21, c + 1, rfl, t9.tr t21.t, m21⟩
    · have c1' : (rpS B L p).2.1 = 1 := by omega
      rw [c1', if_neg (by decide)]
      dsimp only
      rw [bd_e, bd_e, if_pos rfl]
      dsimp only
      rw [bd_e, if_pos rfl]
      dsimp only
      rw [I_add, bd_e, bd_e, bd_e, if_pos rfl]
      dsimp only
      rw [bd_e, if_pos rfl]
      dsimp only
      rw [go_end, gwS_1 n c1]
      rw [c1'] at m9
      exact ⟨o9, c + 0, rfl, t9, m9⟩
theorem go_e (hb : BB L B) (hW : WM o L B) : ∃ o1 c', F_X6_goesThrough o (I 0) = some (I c', o1) ∧ T19 o o1 ∧ MR o1 L B (gwS B L (L + 1) 0).1 (gwS B L (L + 1) 0).2 := by
  have hL := hb.1
  have hFU : 100 < FU := by unfold FU; omega
  unfold F_X6_goesThrough
  generalize FU = F at hFU ⊢
  obtain ⟨p, hp⟩ : ∃ p, p = wr (wr o 19 0 8 (I 0)) 19 0 9 (I 0) := ⟨_, rfl⟩
  have t : T19 o p := by rw [hp]; exact ((T19.rf o).wr (by omega)).wr (by omega)
  have m : MR p L B 0 0 := ⟨hW.c (t.2.2 7 (by omega)) (t.1 23 0 (by omega)), by rw [hp, rd_wj _ _ (by omega), rd_wr]; rfl, by rw [hp, rd_wr]⟩
  obtain ⟨o1, c', e1, t1, m1⟩ := go_loop hb (fun (o_4 : OM) (v2_3 : Int32) => some (v2_3, o_4)) (L + 1) F 0 p 0 (by omega) (by omega) (by omega) m
  refine ⟨o1, c', ?_, t.tr t1, m1⟩
  simp only [I_lit]
  rw [bd_e, isZ0, grd_e, ← hp, bd_e, bd_e]
  exact e1
theorem rw_loop (hb : BB L B) : ∀ (n fuel p i : Nat) (o : OM), n < fuel → L < n + p → p ≤ L → i ≤ p → PR o L B p → ∃ o1, LX4_readWorks_7 (fun (o_2 : OM) => grd (isZ (I 0)) (some ((I 0), o_2))) (fun (o_3 : OM) => bd (fun (s_4 : Int32) => grd (isZ s_4) (some (s_4, o_3))) (fun k47 => if (rd o_3 16 0 2) = (rd o_3 16 0 0) then (k47 (I 1)) else (k47 (I 0)))) (fun (o_5 : OM) => grd (isZ (I 0)) (some ((I 0), o_5))) fuel o (I (i : Int)) = some (tf ((gwS B L n p).2 = 0), o1) ∧ T6 o o1 ∧ PR o1 L B (gwS B L n p).1 := by
  have hL := hb.1
  intro n
  induction n with
  | zero => intro fuel p i o h1 h2; omega
  | succ n ih =>
    intro fuel p i o h1 h2 hp hi h
    obtain ⟨f, rfl⟩ : ∃ f, fuel = f + 1 := ⟨fuel - 1, by omega⟩
    obtain ⟨⟨r1, r2, r3⟩, r4⟩ := rpS_rd (B := B) hp
    rw [LX4_readWorks_7.eq_2]
    simp only [I_lit]
    have n10 : ∀ a : Nat, ¬ ((a, (1 : Int)).2 = 0) := fun a => by show ¬ ((1 : Int) = 0); omega
    have n00 : ∀ a : Nat, ((a, (0 : Int)).2 = 0) := fun a => rfl
    by_cases c0 : 60 ≤ i
    · have hs : rpS B L p = (p, 1, 0, 0, 0) := by
        have z : ltr B L p = 0 := by unfold ltr; rw [if_neg (by omega)]
        unfold rpS
        rw [z, if_neg (by omega), if_neg (by omega), if_neg (by omega), if_neg (by omega), if_neg (by omega)]
      rw [gwS_1 n (by rw [hs]; show (1 : Int) ≠ 0; omega), hs, tf_f (n10 _), if_pos (by rw [I_le (by omega) (by omega) (by omega) (by omega)]; omega), isZ0, grd_e]
      exact ⟨o, rfl, T6.rf o, h⟩
    · rw [if_neg (by rw [I_le (by omega) (by omega) (by omega) (by omega)]; omega)]
      obtain ⟨o9, e9, t9, p9, l9, n9⟩ := cread_e h hb hp
      rw [e9, bn_e]
      by_cases c1 : (rpS B L p).2.1 = 0
      · rw [tf_t c1, if_neg (by decide)]
        obtain ⟨o11, e11, t11, n11, p11⟩ := rsign_e p9 hb r2 (c := 59) (by omega)
        rw [e11, bn_e]
        by_cases c3 : (rpS B L p).1 < L ∧ B (rpS B L p).1 = 59
        · have k := tkp_y (B := B) (L := L) (p := (rpS B L p).1) (w := 0) (lo := 59) (hi := 59) ⟨rfl, by omega, by omega, by omega⟩
          obtain ⟨u, hu⟩ : ∃ u, u = tkp B L 59 59 (rpS B L p).1 0 := ⟨_, rfl⟩
          rw [← hu] at k p11 ⊢
          have u1 : u.2.1 = 0 := by rw [k]
          have u2 : u.1 = (rpS B L p).1 + 1 := by rw [k]
          rw [u2] at p11
          rw [tf_t u1, if_neg (by decide), I_add, bd_e, gwS_3 n c1 (by omega) c3.2]
          obtain ⟨o1, e1, t1, q1⟩ := ih f ((rpS B L p).1 + 1) (i + 1) o11 (by omega) (by omega) (by omega) (by omega) p11
          exact ⟨o1, e1, (t9.tr t11.t).tr t1, q1⟩
        · have k := tkp_n (B := B) (L := L) (p := (rpS B L p).1) (w := 0) (lo := 59) (hi := 59) (fun z => c3 (by omega))
          obtain ⟨u, hu⟩ : ∃ u, u = tkp B L 59 59 (rpS B L p).1 0 := ⟨_, rfl⟩
          rw [← hu] at k p11 ⊢
          have u1 : ¬ u.2.1 = 0 := by rw [k]; show ¬ ((1 : Int) = 0); omega
          have u2 : u.1 = (rpS B L p).1 := by rw [k]
          rw [u2] at p11
          rw [tf_f u1, if_pos rfl, bd_e, p11.2, p11.1.1]
          by_cases c2 : L ≤ (rpS B L p).1
          · rw [if_pos (by rw [show (rpS B L p).1 = L from by omega]), gwS_2 n c1 c2, tf_t (n00 _)]
            dsimp only
            rw [isZ1, grd_e]
            exact ⟨o11, rfl, t9.tr t11.t, p11⟩
          · rw [if_neg (fun z => by have := I_inj (by omega) (by omega) (by omega) (by omega) z; omega), gwS_4 n c1 c2 (fun z => c3 ⟨by omega, z⟩), tf_f (n10 _)]
            dsimp only
            rw [isZ0, grd_e]
            exact ⟨o11, rfl, t9.tr t11.t, p11⟩
      · rw [tf_f c1, if_pos rfl, gwS_1 n c1, tf_f (n10 _), isZ0, grd_e]
        exact ⟨o9, rfl, t9, p9⟩
theorem rw_e (hb : BB L B) (hW : WC o L B) : ∃ o1, F_X4_readWorks o = some (tf ((gwS B L (L + 1) 0).2 = 0), o1) ∧ T6 o o1 ∧ PR o1 L B (gwS B L (L + 1) 0).1 := by
  have hL := hb.1
  have hFU : 100 < FU := by unfold FU; omega
  unfold F_X4_readWorks
  generalize FU = F at hFU ⊢
  have t : T6 o (wr o 16 0 2 (I 0)) := (T6.rf o).w (by omega)
  obtain ⟨o1, e1, t1, p1⟩ := rw_loop hb (L + 1) F 0 0 (wr o 16 0 2 (I 0)) (by omega) (by omega) (by omega) (by omega) ⟨hW.c t.2.2 (t.1 17 0 (by omega) (by omega)), by rw [rd_wr]; rfl⟩
  refine ⟨o1, ?_, t.tr t1, p1⟩
  simp only [I_lit]
  rw [bd_e, bd_e, bd_e, bd_e]
  exact e1
theorem RP.t6 {o1 : OM} {S : Int → Int} {q : Qt} (h : RP o S q) (t : T6 o o1) : RP o1 S q := h.fr (fun k i x y => t.1 k i (by omega) (by omega)) t.2.2
theorem RM.t19 {o1 : OM} {S : Int → Int} {q : Qt} (h : RM o S q) (t : T19 o o1) : RM o1 S q := h.fr (fun k i x => t.1 k i (by omega)) (t.2.2 3 (by omega)) (t.2.2 5 (by omega)) (t.2.2 7 (by omega))
theorem T6.gp {o1 : OM} (t : T6 o o1) : Gp o o1 := ⟨fun k i x => t.1 k i (by omega) (by omega), t.2.1⟩
theorem T19.gm {o1 : OM} (t : T19 o o1) : Gm o o1 := ⟨fun k i x => t.1 k i (by omega), by rw [t.2.1]⟩
theorem ok_firstError {S : Int → Int} {q : Qt} {Y : Nat} (hb : RB S q Y) (hY : Y ≤ 700000) : OK0 F_X5_firstError F_X6_firstError S q Y := by
  have hBB : BB q.2.2.1 q.2.2.2 := ⟨hb.2.2.2.2.2.1, hb.2.2.2.2.2.2.1⟩
  have hL := hBB.1
  obtain ⟨g1, g2, g3⟩ := gwS_rd (B := q.2.2.2) (L := q.2.2.1) (q.2.2.1 + 1) 0 (by omega)
  refine ⟨I ((gwS q.2.2.2 q.2.2.1 (q.2.2.1 + 1) 0).1 : Int), S, q, fun o h => ?_, fun o h => ?_, hb.mono (by omega)⟩
  · obtain ⟨o1, e1, t1, p1⟩ := rw_e hBB h.2.2.2.2.2
    refine ⟨o1, ?_, t1.gp, h.t6 t1⟩
    unfold F_X5_firstError
    rw [e1, bn_e, p1.2]
  · have h0 := h.w19 (j := 0) (I 0) (by omega)
    obtain ⟨o1, c', e1, t1, m1⟩ := go_e hBB h0.2.2.2.2
    refine ⟨o1, ?_, ((Gm.rf o).wr (by omega)).tr t1.gm, h0.t19 t1⟩
    unfold F_X6_firstError
    simp only [I_lit]
    rw [bd_e, e1, bn_e, bd_e, m1.2.2, m1.2.1, m1.1.1]
    rcases g1 with g | g
    · rw [g, if_pos rfl, g2 g]
    · rw [g, if_neg (by decide)]
end
