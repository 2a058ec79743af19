/-! works are done, part by part -/
section
variable {B : Nat → Int} {L : Nat}
theorem T6.rp {o o1 : OM} {S : Int → Int} {q : Qt} (h : RP o S q) (t : T6 o o1) : RP o1 S q := h.t6 t
theorem PR.fz {o o1 : OM} {p : Nat} (h : PR o L B p) (f : Fz o o1) : PR o1 L B p := ⟨h.1.c (f.rd (by omega)) (f.1 17 0 (by omega)), (f.rd (by omega)).trans h.2⟩
theorem MR.fk {o o1 : OM} {p : Nat} {w : Int} (h : MR o L B p w) (f : Fk o o1 20) : MR o1 L B p w := ⟨h.1.c (f.rd (by omega)) (f.1 23 0 (by omega)), (f.rd (by omega)).trans h.2.1, (f.rd (by omega)).trans h.2.2⟩
theorem work_stop (kk : OM → Int32 → Int32 → Option ((Nat × Int32) × OM)) (fuel : Nat) (o : OM) (c : Int32) {rs : Int} (h1 : 0 < rs) (h2 : rs ≤ 8) : LX5_work_43 kk (fuel + 1) o c (I rs) = kk o c (I rs) := by
  rw [LX5_work_43.eq_2]
  dsimp only
  by_cases k : (60 : Int32) ≤ c
  · rw [if_pos k]
  · rw [if_neg k, show (0 : Int32) = I 0 from rfl, if_neg (fun z => by have := I_inj (by omega) (by omega) (by omega) (by omega) z; omega)]
theorem work_end (hb : BB L B) {S : Int → Int} {q : Qt} (kk : OM → Int32 → Int32 → Option ((Nat × Int32) × OM)) (fuel : Nat) (o : OM) (c : Nat) (hc : c ≤ 100) (hR : RP o S q) (h : PR o L B L) : ∃ o1, LX5_work_43 kk (fuel + 1) o (I (c : Int)) (I 0) = kk o1 (I (c : Int)) (I 0) ∧ RP o1 S q ∧ Gp o o1 := by
  rw [LX5_work_43.eq_2]
  dsimp only
  rw [show (60 : Int32) = I 60 from rfl, show (0 : Int32) = I 0 from rfl]
  by_cases k : 60 ≤ c
  · rw [if_pos (by rw [I_le (by omega) (by omega) (by omega) (by omega)]; omega)]
    exact ⟨o, rfl, hR, Gp.rf o⟩
  · rw [if_neg (by rw [I_le (by omega) (by omega) (by omega) (by omega)]; omega), if_pos rfl]
    obtain ⟨o9, e9, t9, p9, l9, n9⟩ := cread_e h hb (Nat.le_refl L)
    have z : ¬ (rpS B L L).2.1 = 0 := fun z => by
      have := (rpS_rd (B := B) (Nat.le_refl L)).2 z
      omega
    rw [e9, bn_e, tf_f z, if_pos rfl]
    exact ⟨o9, rfl, hR.t6 t9, t9.gp⟩
theorem work_sim (hb : BB L B) (q : Qt) : ∀ (n p cnt : Nat) (S : Int → Int) (Y : Nat), L < n + p → p ≤ L → cnt ≤ p → (gwS B L n p).2 = 0 → SB S Y → Y + 10 * (L - p) + 20 ≤ 800000 →
    ∃ (S' : Int → Int) (k : Nat) (rs : Int), k ≤ 60 ∧ (0 ≤ rs ∧ rs ≤ 8) ∧ SB S' (Y + 10 * (L - p) + 20) ∧ (∀ x : Int, 242 ≤ x → x < 246 → S' x = S x) ∧
      (∀ (o : OM) (kk : OM → Int32 → Int32 → Option ((Nat × Int32) × OM)) (fuel : Nat), n + 2 < fuel → RP o S q → PR o L B p → ∃ o1, LX5_work_43 kk fuel o (I (cnt : Int)) (I 0) = kk o1 (I (k : Int)) (I rs) ∧ RP o1 S' q ∧ Gp o o1) ∧
      (∀ (o : OM) (kk : OM → Int32 → Option (Int32 × OM)) (fuel : Nat), n + 2 < fuel → RM o S q → MR o L B p 0 → ∃ o1, LX6_goesThrough_14 kk (I 1) fuel o (I (cnt : Int)) (I 1) = kk o1 (I (k : Int)) ∧ RM o1 (if rs = 0 then S' else upI (upI S' 242 (k : Int)) 243 rs) q ∧ Gm o o1 ∧ rd o1 19 0 0 = rd o 19 0 0) := by
  have hL := hb.1
  intro n
  induction n with
  | zero => intro p cnt S Y h1 h2; omega
  | succ n ih =>
    intro p cnt S Y h1 hp hcp hg hB hY
    obtain ⟨⟨r1, r2, r3⟩, r4⟩ := rpS_rd (B := B) hp
    have c1 : (rpS B L p).2.1 = 0 := by
      by_cases c : (rpS B L p).2.1 = 0
      · exact c
      · rw [gwS_1 n c] at hg
        exact absurd hg (by show ¬ ((1 : Int) = 0); omega)
    have hpL := r4 c1
    have hv := rpS_v hp c1
    have rg := rsn_rg S (ltr B L p) (rpS B L p).2.2.1 (rpS B L p).2.2.2.1
    by_cases h0 : rsn S (ltr B L p) (rpS B L p).2.2.1 (rpS B L p).2.2.2.1 = 0
    · obtain ⟨sb1, k1⟩ := dos_sb hB (by omega) hv h0
      by_cases c2 : L ≤ (rpS B L p).1
      · refine ⟨dos S (ltr B L p) (rpS B L p).2.2.1 (rpS B L p).2.2.2.1 (rpS B L p).2.2.2.2, cnt + 1, 0, by omega, by omega, sb1.mono (by omega), k1, ?_, ?_⟩
        · intro o kk fuel hf hR h
          obtain ⟨f, rfl⟩ : ∃ f, fuel = f + 2 := ⟨fuel - 2, by omega⟩
          obtain ⟨o18, e18, t18, p18, l18, n18⟩ := cread_e h hb hp
          obtain ⟨o20, e20, f20, R20⟩ := (try_e (hR.t6 t18) hB (by omega) l18 (n18 c1) hv).1 h0
          have p20 := p18.fz f20
          have er : (rpS B L p).1 = L := by omega
          rw [er] at p20
          obtain ⟨o23, e23, t23, n23, p23⟩ := rsign_e p20 hb (Nat.le_refl L) (c := 59) (by omega)
          rw [tkp_n (fun z => by omega)] at p23 e23
          have p23 : PR o23 L B L := p23
          obtain ⟨o1, e1, R1, g1⟩ := work_end hb kk f o23 (cnt + 1) (by omega) (R20.t6 t23.t) p23
          refine ⟨o1, ?_, R1, ((t18.gp.tr f20.gp).tr t23.t.gp).tr g1⟩
          rw [LX5_work_43.eq_2]
          simp only [I_lit]
          rw [if_neg (by rw [I_le (by omega) (by omega) (by omega) (by omega)]; omega), if_pos trivial, e18, bn_e, tf_t c1, if_neg (by decide), e20, bn_e, if_pos rfl, I_add, bd_e, e23, bn_e]
          exact e1
        · intro o kk fuel hf hR h
          obtain ⟨f, rfl⟩ : ∃ f, fuel = f + 2 := ⟨fuel - 2, by omega⟩
          obtain ⟨o9, e9, t9, m9, l9, n9⟩ := mread_e h hb hp
          rw [c1] at m9
          have R9 := hR.t19 t9
          have er := reason_e R9.1 hB (by omega) l9 n9 hv
          rw [h0] at er
          obtain ⟨v, o24, e24, f24, s24⟩ := does_e R9.1 hB (by omega) l9 n9 hv h0
          have m24 := m9.fk f24
          refine ⟨o24, ?_, by rw [if_pos rfl]; exact R9.op f24 s24, t9.gm.tr (f24.gm (by omega)), by rw [f24.rd (by omega), t9.2.2 0 (by omega)]⟩
          have q9 := m9.2.2
          have q7 := m24.1.1
          have q8 := m24.2.1
          rw [LX6_goesThrough_14.eq_2]
          simp only [I_lit]
          rw [if_neg (by decide), e9, bn_e, bd_e, if_neg (by decide), er, bq_e]
          dsimp only
          rw [bd_e, if_pos (by decide)]
          dsimp only
          rw [bd_e, bd_e, q9, if_pos rfl, if_pos rfl]
          dsimp only
          rw [bd_e, bd_e, if_neg (by decide), if_neg (by decide), e24, bn_e]
          dsimp only
          rw [bd_e, if_neg (by decide)]
          dsimp only
          rw [I_add, bd_e, bd_e, bd_e, if_neg (by decide), q7, q8, if_pos (by rw [I_le (by omega) (by omega) (by omega) (by omega)]; omega)]
          dsimp only
          rw [bd_e, if_pos rfl]
          dsimp only
          rw [go_end]
          rfl
      · have c3 : B (rpS B L p).1 = 59 := by
          by_cases c : B (rpS B L p).1 = 59
          · exact c
          · rw [gwS_4 n c1 c2 c] at hg
            exact absurd hg (by show ¬ ((1 : Int) = 0); omega)
        rw [gwS_3 n c1 c2 c3] at hg
        have rp1 : p + 1 ≤ (rpS B L p).1 := by
          have hh : (rpS B L p).1 ≠ p := fun z => by
            rw [z] at c3
            have e : ltr B L p = 59 := by unfold ltr; rw [if_pos hpL]; exact c3
            have : rpS B L p = (p, 1, 0, 0, 0) := by
              unfold rpS
              rw [e, if_neg (by omega), if_neg (by omega), if_neg (by omega), if_neg (by omega), if_neg (by omega)]
            rw [this] at c1
            exact absurd c1 (by show ¬ ((1 : Int) = 0); omega)
          omega
        obtain ⟨S', k, rs, j1, j2, j3, j4, j5, j6⟩ := ih ((rpS B L p).1 + 1) (cnt + 1) (dos S (ltr B L p) (rpS B L p).2.2.1 (rpS B L p).2.2.2.1 (rpS B L p).2.2.2.2) (Y + 20) (by omega) (by omega) (by omega) hg sb1 (by omega)
        refine ⟨S', k, rs, j1, j2, j3.mono (by omega), fun x x1 x2 => (j4 x x1 x2).trans (k1 x x1 x2), ?_, ?_⟩
        · intro o kk fuel hf hR h
          obtain ⟨f, rfl⟩ : ∃ f, fuel = f + 1 := ⟨fuel - 1, by omega⟩
          obtain ⟨o18, e18, t18, p18, l18, n18⟩ := cread_e h hb hp
          obtain ⟨o20, e20, f20, R20⟩ := (try_e (hR.t6 t18) hB (by omega) l18 (n18 c1) hv).1 h0
          have p20 := p18.fz f20
          obtain ⟨o23, e23, t23, n23, p23⟩ := rsign_e p20 hb r2 (c := 59) (by omega)
          rw [tkp_y ⟨rfl, by omega, by omega, by omega⟩] at p23 e23
          have p23 : PR o23 L B ((rpS B L p).1 + 1) := p23
          obtain ⟨o1, e1, R1, g1⟩ := j5 o23 kk f (by omega) (R20.t6 t23.t) p23
          refine ⟨o1, ?_, R1, ((t18.gp.tr f20.gp).tr t23.t.gp).tr g1⟩
          rw [LX5_work_43.eq_2]
          simp only [I_lit]
          rw [if_neg (by rw [I_le (by omega) (by omega) (by omega) (by omega)]; omega), if_pos trivial, e18, bn_e, tf_t c1, if_neg (by decide), e20, bn_e, if_pos rfl, I_add, bd_e, e23, bn_e]
          exact e1
        · intro o kk fuel hf hR h
          obtain ⟨f, rfl⟩ : ∃ f, fuel = f + 1 := ⟨fuel - 1, by omega⟩
          obtain ⟨o9, e9, t9, m9, l9, n9⟩ := mread_e h hb hp
          rw [c1] at m9
          have R9 := hR.t19 t9
          have er := reason_e R9.1 hB (by omega) l9 n9 hv
          rw [h0] at er
          obtain ⟨v, o24, e24, f24, s24⟩ := does_e R9.1 hB (by omega) l9 n9 hv h0
          have m24 := m9.fk f24
          have R24 := R9.op f24 s24
          obtain ⟨o21, e21, t21, m21⟩ := takes_e m24 hb r2 (Or.inl rfl) (lo := 59) (hi := 59) (by omega) (by omega)
          have kt := tkp_y (B := B) (L := L) (p := (rpS B L p).1) (w := 0) (lo := 59) (hi := 59) ⟨rfl, by omega, by omega, by omega⟩
          rw [kt] at m21 e21
          have m21 : MR o21 L B ((rpS B L p).1 + 1) 0 := m21
          obtain ⟨o1, e1, R1, g1, v1⟩ := j6 o21 kk f (by omega) (R24.t19 t21.t) m21
          refine ⟨o1, ?_, R1, ((t9.gm.tr (f24.gm (by omega))).tr t21.t.gm).tr g1, by rw [v1, t21.t.2.2 0 (by omega), f24.rd (by omega), t9.2.2 0 (by omega)]⟩
          have q9 := m9.2.2
          have q7 := m24.1.1
          have q8 := m24.2.1
          have q9' := m21.2.2
          rw [LX6_goesThrough_14.eq_2]
          simp only [I_lit]
          rw [if_neg (by decide), e9, bn_e, bd_e, if_neg (by decide), er, bq_e]
          dsimp only
          rw [bd_e, if_pos (by decide)]
          dsimp only
          rw [bd_e, bd_e, q9, if_pos rfl, if_pos rfl]
          dsimp only
          rw [bd_e, bd_e, if_neg (by decide), if_neg (by decide), e24, bn_e]
          dsimp only
          rw [bd_e, if_neg (by decide)]
          dsimp only
          rw [I_add, bd_e, bd_e, bd_e, if_neg (by decide), q7, q8, if_neg (by rw [I_le (by omega) (by omega) (by omega) (by omega)]; omega)]
          dsimp only
          rw [bd_e, if_neg (by decide), e21, bn_e, bd_e, q9', if_pos rfl]
          exact e1
    · refine ⟨S, cnt, rsn S (ltr B L p) (rpS B L p).2.2.1 (rpS B L p).2.2.2.1, by omega, rg, hB.mono (by omega), fun _ _ _ => rfl, ?_, ?_⟩
      · intro o kk fuel hf hR h
        obtain ⟨f, rfl⟩ : ∃ f, fuel = f + 2 := ⟨fuel - 2, by omega⟩
        obtain ⟨o18, e18, t18, p18, l18, n18⟩ := cread_e h hb hp
        have e20 := (try_e (hR.t6 t18) hB (by omega) l18 (n18 c1) hv).2 h0
        refine ⟨o18, ?_, hR.t6 t18, t18.gp⟩
        rw [LX5_work_43.eq_2]
        simp only [I_lit]
        rw [if_neg (by rw [I_le (by omega) (by omega) (by omega) (by omega)]; omega), if_pos trivial, e18, bn_e, tf_t c1, if_neg (by decide), e20, bn_e, if_neg (fun z => by have := I_inj (by omega) (by omega) (by omega) (by omega) z; omega)]
        exact work_stop kk f o18 _ (by omega) (by omega)
      · intro o kk fuel hf hR h
        obtain ⟨f, rfl⟩ : ∃ f, fuel = f + 2 := ⟨fuel - 2, by omega⟩
        obtain ⟨o9, e9, t9, m9, l9, n9⟩ := mread_e h hb hp
        rw [c1] at m9
        have R9 := hR.t19 t9
        have er := reason_e R9.1 hB (by omega) l9 n9 hv
        obtain ⟨rs, hrs⟩ : ∃ rs, rs = rsn S (ltr B L p) (rpS B L p).2.2.1 (rpS B L p).2.2.2.1 := ⟨_, rfl⟩
        rw [← hrs] at er h0 rg ⊢
        obtain ⟨o26, ho⟩ : ∃ o26, o26 = wr (wr o9 20 0 (I 242).toNatClampNeg (I (cnt : Int))) 20 0 (I 243).toNatClampNeg (I rs) := ⟨_, rfl⟩
        have f26 : Fk o9 o26 20 := by rw [ho]; exact ((Fk.rf o9 20).wr).wr
        have s26 : MS o26 (upI (upI S 242 (cnt : Int)) 243 rs) := by rw [ho]; exact (R9.1.up (by omega) (by omega) _).up (by omega) (by omega) _
        have m26 := m9.fk f26
        have q9 := m26.2.2
        refine ⟨o26, ?_, by rw [if_neg h0]; exact R9.op f26 s26, t9.gm.tr (f26.gm (by omega)), by rw [f26.rd (by omega), t9.2.2 0 (by omega)]⟩
        rw [LX6_goesThrough_14.eq_2]
        simp only [I_lit]
        rw [if_neg (by decide), e9, bn_e, bd_e, if_neg (by decide), er, bq_e]
        dsimp only
        rw [bd_e, if_neg (by rw [I_le (by omega) (by omega) (by omega) (by omega)]; omega), I_inB (a := 242) (by omega) (by omega) (by omega), grd_e, bd_e, I_inB (a := 243) (by omega) (by omega) (by omega), grd_e, bd_e, ← ho]
        dsimp only
        rw [bd_e, bd_e, q9, if_pos rfl, if_neg (fun z => by have := I_inj (by omega) (by omega) (by omega) (by omega) z; omega)]
        dsimp only
        rw [bd_e, bd_e, if_pos rfl]
        dsimp only
        rw [bd_e, if_pos rfl]
        dsimp only
        rw [I_add, bd_e, bd_e, bd_e, if_pos rfl]
        dsimp only
        rw [bd_e, if_pos rfl]
        dsimp only
        rw [go_end, Int.add_zero]
end
