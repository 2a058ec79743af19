/-! works are done -/
noncomputable def rsn (S : Int → Int) (l a b : Int) : Int := if l = 109 then (if gm S = 6 then 8 else 0) else if l = 99 then (if 0 ≤ a ∧ a < (gm S : Int) then hnd S a.toNat (S (229 + b)) else 7) else if l = 112 then (if 0 ≤ a ∧ a < (gm S : Int) then ref S a.toNat else 7) else 0
noncomputable def dos (S : Int → Int) (l a b c : Int) : Int → Int := if l = 109 then makeS S a b c else if l = 99 then measS S a.toNat (S (229 + b)) else if l = 112 then sealS S a.toNat else if l = 121 then passS S a.toNat else upI S (229 + a) b
def Vld (l a b c : Int) : Prop := (l = 109 ∧ (-50 ≤ a ∧ a ≤ 50) ∧ (-50 ≤ b ∧ b ≤ 50) ∧ (0 ≤ c ∧ c ≤ 3)) ∨ (l = 99 ∧ (0 ≤ a ∧ a ≤ 5) ∧ (0 ≤ b ∧ b ≤ 3)) ∨ (l = 121 ∧ 1 ≤ a ∧ a ≤ 20) ∨ (l = 112 ∧ 0 ≤ a ∧ a ≤ 5) ∨ (l = 98 ∧ (0 ≤ a ∧ a ≤ 3) ∧ (-400 ≤ b ∧ b ≤ 1500))
section
variable {o : OM} {B : Nat → Int} {L p : Nat} {S : Int → Int} {q : Qt} {Y : Nat} {l a b c : Int}
theorem rpS_v (hp : p ≤ L) (h : (rpS B L p).2.1 = 0) : Vld (ltr B L p) (rpS B L p).2.2.1 (rpS B L p).2.2.2.1 (rpS B L p).2.2.2.2 := by
  unfold Vld
  unfold rpS at h ⊢
  by_cases c1 : ltr B L p = 109
  · have h' := ltr_lt (by omega) c1
    have := rpM_rd (B := B) (show p + 1 ≤ L by omega)
    rw [if_pos c1]; exact Or.inl ⟨c1, this.2.1, this.2.2.1, this.2.2.2⟩
  · rw [if_neg c1] at h ⊢
    by_cases c2 : ltr B L p = 99
    · have h' := ltr_lt (by omega) c2
      have := rpC_rd (B := B) (show p + 1 ≤ L by omega)
      rw [if_pos c2]; exact Or.inr (Or.inl ⟨c2, this.2.1, this.2.2⟩)
    · rw [if_neg c2] at h ⊢
      by_cases c3 : ltr B L p = 121
      · have h' := ltr_lt (by omega) c3
        have := rpY_rd (B := B) (show p + 1 ≤ L by omega)
        rw [if_pos c3]; exact Or.inr (Or.inr (Or.inl ⟨c3, this.2⟩))
      · rw [if_neg c3] at h ⊢
        by_cases c4 : ltr B L p = 112
        · have h' := ltr_lt (by omega) c4
          have := rpP_rd (B := B) (show p + 1 ≤ L by omega)
          rw [if_pos c4]; exact Or.inr (Or.inr (Or.inr (Or.inl ⟨c4, this.2⟩)))
        · rw [if_neg c4] at h ⊢
          by_cases c5 : ltr B L p = 98
          · have h' := ltr_lt (by omega) c5
            have := rpB_rd (B := B) (show p + 1 ≤ L by omega)
            rw [if_pos c5]; exact Or.inr (Or.inr (Or.inr (Or.inr ⟨c5, this.2⟩)))
          · rw [if_neg c5] at h
            exact absurd h (by show ¬ ((1 : Int) = 0); omega)
theorem rsn_rg (S : Int → Int) (l a b : Int) : 0 ≤ rsn S l a b ∧ rsn S l a b ≤ 8 := by
  unfold rsn
  split
  · split <;> omega
  · split
    · split
      · have := hnd_rg S a.toNat (S (229 + b)); omega
      · omega
    · split
      · split
        · have := ref_rg S a.toNat; omega
        · omega
      · omega
theorem dos_sb (hB : SB S Y) (hY : Y ≤ 800000) (hv : Vld l a b c) (h0 : rsn S l a b = 0) : SB (dos S l a b c) (Y + 20) ∧ ∀ x : Int, 242 ≤ x → x < 246 → dos S l a b c x = S x := by
  have hm := hB.m
  unfold Vld at hv
  unfold rsn at h0
  unfold dos
  rcases hv with ⟨rfl, v1, v2, v3⟩ | ⟨rfl, v1, v2⟩ | ⟨rfl, v1⟩ | ⟨rfl, v1⟩ | ⟨rfl, v1, v2⟩
  · rw [if_pos rfl] at h0 ⊢
    have hg : gm S < 6 := by
      by_cases c : gm S = 6
      · rw [if_pos c] at h0; omega
      · omega
    exact ⟨(hB.make hg v1 v2 v3).mono (by omega), fun x x1 x2 => makeS_lo _ _ _ _ (by omega) (by omega)⟩
  · rw [if_neg (by omega), if_pos rfl] at h0 ⊢
    by_cases c : 0 ≤ a ∧ a < (gm S : Int)
    · rw [if_pos c] at h0
      have hz := hB.2.1 b (by omega) (by omega)
      exact ⟨(hB.meas (by omega) (g := a.toNat) (by omega) hz.1 hz.2 h0).mono (by omega), fun x x1 x2 => measS_lo (hB.g (by omega)) h0 (by omega)⟩
    · rw [if_neg c] at h0; omega
  · rw [if_neg (by omega), if_neg (by omega), if_neg (by omega), if_pos rfl]
    exact ⟨(hB.pass a.toNat).1.mono (by omega), fun x x1 x2 => passS_hi hB (by omega) _⟩
  · rw [if_neg (by omega), if_neg (by omega), if_pos rfl] at h0 ⊢
    by_cases c : 0 ≤ a ∧ a < (gm S : Int)
    · exact ⟨(hB.seal (g := a.toNat) (by omega)).mono (by omega), fun x x1 x2 => sealS_hi (by omega) (by omega)⟩
    · rw [if_neg c] at h0; omega
  · rw [if_neg (by omega), if_neg (by omega), if_neg (by omega), if_neg (by omega)]
    exact ⟨hB.up (by omega) (Or.inl (by omega)), fun x x1 x2 => upI_n _ _ (by omega)⟩
theorem rsn_m (S : Int → Int) (a b : Int) : rsn S 109 a b = if gm S = 6 then 8 else 0 := rfl
theorem rsn_c (S : Int → Int) (a b : Int) : rsn S 99 a b = if 0 ≤ a ∧ a < (gm S : Int) then hnd S a.toNat (S (229 + b)) else 7 := rfl
theorem rsn_p (S : Int → Int) (a b : Int) : rsn S 112 a b = if 0 ≤ a ∧ a < (gm S : Int) then ref S a.toNat else 7 := rfl
theorem rsn_y (S : Int → Int) (a b : Int) : rsn S 121 a b = 0 := rfl
theorem rsn_b (S : Int → Int) (a b : Int) : rsn S 98 a b = 0 := rfl
theorem dos_m (S : Int → Int) (a b c : Int) : dos S 109 a b c = makeS S a b c := rfl
theorem dos_c (S : Int → Int) (a b c : Int) : dos S 99 a b c = measS S a.toNat (S (229 + b)) := rfl
theorem dos_p (S : Int → Int) (a b c : Int) : dos S 112 a b c = sealS S a.toNat := rfl
theorem dos_y (S : Int → Int) (a b c : Int) : dos S 121 a b c = passS S a.toNat := rfl
theorem dos_b (S : Int → Int) (a b c : Int) : dos S 98 a b c = upI S (229 + a) b := rfl
/-! the program tries a part -/
theorem try_e (hR : RP o S q) (hB : SB S Y) (hY : Y ≤ 800000) (hl : rd o 16 0 3 = I l) {r : Nat × Int × Int × Int × Int} (hn : Ncs o l r) (hv : Vld l r.2.2.1 r.2.2.2.1 r.2.2.2.2) :
    (rsn S l r.2.2.1 r.2.2.2.1 = 0 → ∃ o1, F_X5_tryPart o = some (I 0, o1) ∧ Fz o o1 ∧ RP o1 (dos S l r.2.2.1 r.2.2.2.1 r.2.2.2.2) q) ∧ (rsn S l r.2.2.1 r.2.2.2.1 ≠ 0 → F_X5_tryPart o = some (I (rsn S l r.2.2.1 r.2.2.2.1), o)) := by
  have hm := hB.m
  have hP := hR.2.1 0 (by omega)
  obtain ⟨p0, w, a, b, c⟩ := r
  dsimp only at hv ⊢
  obtain ⟨n1, n2, n3⟩ := hn
  dsimp only at n1 n2 n3
  have i0 : inB (I 0) 3 = true := by decide
  have i1 : inB (I 1) 3 = true := by decide
  have i2 : inB (I 2) 3 = true := by decide
  have j0 : (I 0).toNatClampNeg = 0 := by decide
  have j1 : (I 1).toNatClampNeg = 1 := by decide
  have j2 : (I 2).toNatClampNeg = 2 := by decide
  unfold Vld at hv
  unfold F_X5_tryPart
  simp only [I_lit]
  rw [i0, grd_e, j0, bd_e, i1, grd_e, j1, bd_e, hl, bd_e, i2, j2]
  rcases hv with ⟨rfl, v1, v2, v3⟩ | ⟨rfl, v1, v2⟩ | ⟨rfl, v1⟩ | ⟨rfl, v1⟩ | ⟨rfl, v1, v2⟩
  · obtain ⟨m1, m2, m3⟩ := n1 rfl
    rw [if_neg (show ¬ (I 109 = I 99) by decide), if_pos (show I 109 = I 109 from rfl), m1, m2, m3, grd_e, rsn_m, dos_m]
    have hr := hasRoom_e hR.1 hB
    by_cases g : gm S = 6
    · rw [if_pos g]
      refine ⟨fun z => by omega, fun _ => ?_⟩
      rw [tf_f (by omega)] at hr
      unfold F_X5_tryToMake
      rw [hr, bq_e, if_pos (by decide), bn_e]
      rfl
    · rw [if_neg g]
      refine ⟨fun _ => ?_, fun z => absurd rfl z⟩
      rw [tf_t (by omega)] at hr
      obtain ⟨o1, e1, f1, k1, c1⟩ := addTh_e hR.1 hB hP (by omega) a b c
      refine ⟨o1, ?_, f1, hR.op4 f1 k1 c1⟩
      unfold F_X5_tryToMake
      rw [hr, bq_e, if_neg (by decide), e1, bn_e, bn_e]
      rfl
  · obtain ⟨m1, m2⟩ := n2 (Or.inl rfl)
    rw [if_pos (show I 99 = I 99 from rfl), m1, m2, rsn_c, dos_c]
    have hh := has_e hR.1 hB (I a)
    rw [I_to (by omega) (by omega)] at hh
    by_cases g : 0 ≤ a ∧ a < (gm S : Int)
    · obtain ⟨k, rfl⟩ : ∃ k : Nat, a = (k : Int) := ⟨a.toNat, by omega⟩
      have hk : k < gm S := by omega
      have hz := hB.2.1 b (by omega) (by omega)
      have q0 := hR.1.2.2.2.2.2.1 b (by omega) (by omega)
      have w3 := reasonNot_e (hR.1.t hk) (hB.g hk) hz.1 hz.2
      have ww := wi_y o (a := b) (b := 0) (c := 3) (by omega) (by omega) (by omega) (by omega)
      have y0 := hR.1.1
      have hr := hnd_rg S k (S (229 + b))
      rw [tf_t g] at hh
      rw [if_pos g, show ((k : Int)).toNat = k from rfl]
      unfold F_X5_tryToMeasure
      rw [show (0 : Int32) = I 0 from rfl, show (3 : Int32) = I 3 from rfl, hh, bq_e, bd_e, if_neg (by decide), ww, bq_e, if_neg (by decide), I_inB (a := (k : Int)) (by omega) (by omega) (by omega), grd_e, I_tcN (by omega), bd_e, I_inB (a := b) (by omega) (by omega) (by omega), grd_e, q0, bd_e, w3, bq_e, bd_e, y0]
      by_cases h0 : hnd S k (S (229 + b)) = 0
      · refine ⟨fun _ => ?_, fun z => absurd h0 z⟩
        obtain ⟨o2, e2, f2, T2⟩ := addPt_e (hR.1.t hk) hB (by omega) (hB.g hk) hz.1 hz.2 h0
        have c2 := CS.one (g := k) hR.1 hB.wb hP hk f2.ft T2 (fun x hx => measS_lo (hB.g hk) h0 (by omega))
        refine ⟨o2, ?_, f2.ft.fz (tid_0 _ _), hR.op4 (f2.ft.fz (tid_0 _ _)) (f2.1 4 0 (by omega)) c2⟩
        rw [h0, if_pos rfl, e2, bn_e, bn_e]
      · refine ⟨fun z => absurd z h0, fun _ => ?_⟩
        rw [if_neg (fun z => by have := I_inj (by omega) (by omega) (by omega) (by omega) z; omega), bn_e]
    · rw [if_neg g]
      refine ⟨fun z => by omega, fun _ => ?_⟩
      rw [tf_f g] at hh
      unfold F_X5_tryToMeasure
      rw [hh, bq_e, bd_e, if_pos (by decide), bn_e]
      rfl
  · have m1 := n3 (Or.inr rfl)
    rw [if_neg (show ¬ (I 121 = I 99) by decide), if_neg (show ¬ (I 121 = I 109) by decide), if_neg (show ¬ (I 121 = I 112) by decide), if_pos (show I 121 = I 121 from rfl), m1, rsn_y, dos_y]
    obtain ⟨k, rfl⟩ : ∃ k : Nat, a = (k : Int) := ⟨a.toNat, by omega⟩
    obtain ⟨o1, e1, f1, k1, c1⟩ := letPass_e hR.1 hB hP (n := k) (by omega) (by omega)
    refine ⟨fun _ => ⟨o1, ?_, f1, hR.op4 f1 k1 c1⟩, fun z => absurd rfl z⟩
    rw [e1, bn_e]
  · have m1 := n3 (Or.inl rfl)
    rw [if_neg (show ¬ (I 112 = I 99) by decide), if_neg (show ¬ (I 112 = I 109) by decide), if_pos (show I 112 = I 112 from rfl), m1, rsn_p, dos_p]
    have hh := has_e hR.1 hB (I a)
    rw [I_to (by omega) (by omega)] at hh
    by_cases g : 0 ≤ a ∧ a < (gm S : Int)
    · obtain ⟨k, rfl⟩ : ∃ k : Nat, a = (k : Int) := ⟨a.toNat, by omega⟩
      have hk : k < gm S := by omega
      have w3 := reasonForNoPaper_e hR.1 hB (by omega) hk (hR.1.t hk)
      have hr := ref_rg S k
      rw [tf_t g] at hh
      rw [if_pos g, show ((k : Int)).toNat = k from rfl]
      unfold F_X5_tryToSeal
      rw [show (0 : Int32) = I 0 from rfl, hh, bq_e, if_neg (by decide), I_inB (a := (k : Int)) (by omega) (by omega) (by omega), grd_e, I_tcN (by omega), bd_e, w3, bq_e, bd_e]
      by_cases h0 : ref S k = 0
      · refine ⟨fun _ => ?_, fun z => absurd h0 z⟩
        obtain ⟨o2, e2, f2, k2, v2, c2⟩ := giveSeal_e hR.1 hB hP hk
        refine ⟨o2, ?_, f2, hR.op4 f2 k2 c2⟩
        rw [h0, if_pos rfl, e2, bn_e, bn_e]
      · refine ⟨fun z => absurd z h0, fun _ => ?_⟩
        rw [if_neg (fun z => by have := I_inj (by omega) (by omega) (by omega) (by omega) z; omega), bn_e]
    · rw [if_neg g]
      refine ⟨fun z => by omega, fun _ => ?_⟩
      rw [tf_f g] at hh
      unfold F_X5_tryToSeal
      rw [hh, bq_e, if_pos (by decide), bn_e]
      rfl
  · obtain ⟨m1, m2⟩ := n2 (Or.inr rfl)
    rw [if_neg (show ¬ (I 98 = I 99) by decide), if_neg (show ¬ (I 98 = I 109) by decide), if_neg (show ¬ (I 98 = I 112) by decide), if_neg (show ¬ (I 98 = I 121) by decide), m1, m2, rsn_b, dos_b]
    obtain ⟨o1, e1, f1, k1, c1⟩ := changeBath_e hR.1 hB (b := a) (by omega) (by omega) b
    refine ⟨fun _ => ⟨o1, ?_, f1, hR.op4 f1 k1 c1⟩, fun z => absurd rfl z⟩
    rw [e1, bn_e]
/-! the model tries a part -/
theorem reason_e (hS : MS o S) (hB : SB S Y) (hY : Y ≤ 800000) (hl : rd o 19 0 10 = I l) {r : Nat × Int × Int × Int × Int} (hn : Nms o l r) (hv : Vld l r.2.2.1 r.2.2.2.1 r.2.2.2.2) : F_X6_reasonOfPart o = some (I (rsn S l r.2.2.1 r.2.2.2.1)) := by
  have hm := hB.m
  obtain ⟨p0, w, a, b, c⟩ := r
  dsimp only at hv ⊢
  obtain ⟨n1, n2, n3⟩ := hn
  dsimp only at n1 n2 n3
  unfold Vld at hv
  unfold F_X6_reasonOfPart
  simp only [I_lit]
  rw [hl, bd_e]
  rcases hv with ⟨rfl, v1, v2, v3⟩ | ⟨rfl, v1, v2⟩ | ⟨rfl, v1⟩ | ⟨rfl, v1⟩ | ⟨rfl, v1, v2⟩
  · have w4 := hS 228 (by omega) (by omega)
    rw [hm.1] at w4
    rw [if_neg (show ¬ (I 109 = I 99) by decide), if_pos (show I 109 = I 109 from rfl), rsn_m, I_inB (a := 228) (by omega) (by omega) (by omega), grd_e, w4, bd_e]
    by_cases g : gm S = 6
    · rw [if_pos g, g, if_pos (by decide)]
    · rw [if_neg g, if_neg (fun z => by have := I_inj (by omega) (by omega) (by omega) (by omega) z; omega)]
  · obtain ⟨m1, m2⟩ := n2 (Or.inl rfl)
    rw [if_pos (show I 99 = I 99 from rfl), m1, m2, rsn_c]
    by_cases g : 0 ≤ a ∧ a < (gm S : Int)
    · obtain ⟨k, rfl⟩ : ∃ k : Nat, a = (k : Int) := ⟨a.toNat, by omega⟩
      have hk : k < gm S := by omega
      rw [if_pos g, there_y hS hB (by omega) g, bq_e, bd_e, if_neg (by decide), hindrance_e hS hB (hB.g hk) (by omega) v2.1 (by omega), bq_e]
      rfl
    · rw [if_neg g, there_n hS hB (by omega) g, bq_e, bd_e, if_pos rfl]
  · rw [if_neg (show ¬ (I 121 = I 99) by decide), if_neg (show ¬ (I 121 = I 109) by decide), if_neg (show ¬ (I 121 = I 112) by decide), rsn_y]
  · have m1 := n3 (Or.inl rfl)
    rw [if_neg (show ¬ (I 112 = I 99) by decide), if_neg (show ¬ (I 112 = I 109) by decide), if_pos (show I 112 = I 112 from rfl), m1, rsn_p]
    by_cases g : 0 ≤ a ∧ a < (gm S : Int)
    · obtain ⟨k, rfl⟩ : ∃ k : Nat, a = (k : Int) := ⟨a.toNat, by omega⟩
      have hk : k < gm S := by omega
      rw [if_pos g, there_y hS hB (by omega) g, bq_e, bd_e, if_neg (by decide), refusal_e hS hB (by omega) hk, bq_e]
      rfl
    · rw [if_neg g, there_n hS hB (by omega) g, bq_e, bd_e, if_pos rfl]
  · rw [if_neg (show ¬ (I 98 = I 99) by decide), if_neg (show ¬ (I 98 = I 109) by decide), if_neg (show ¬ (I 98 = I 112) by decide), rsn_b]
theorem does_e (hS : MS o S) (hB : SB S Y) (hY : Y ≤ 800000) (hl : rd o 19 0 10 = I l) {r : Nat × Int × Int × Int × Int} (hn : Nms o l r) (hv : Vld l r.2.2.1 r.2.2.2.1 r.2.2.2.2) (h0 : rsn S l r.2.2.1 r.2.2.2.1 = 0) : ∃ v o1, F_X6_doesPart o = some (v, o1) ∧ Fk o o1 20 ∧ MS o1 (dos S l r.2.2.1 r.2.2.2.1 r.2.2.2.2) := by
  have hm := hB.m
  obtain ⟨p0, w, a, b, c⟩ := r
  dsimp only at hv h0 ⊢
  obtain ⟨n1, n2, n3⟩ := hn
  dsimp only at n1 n2 n3
  unfold Vld at hv
  unfold F_X6_doesPart
  simp only [I_lit]
  rw [hl, bd_e]
  rcases hv with ⟨rfl, v1, v2, v3⟩ | ⟨rfl, v1, v2⟩ | ⟨rfl, v1⟩ | ⟨rfl, v1⟩ | ⟨rfl, v1, v2⟩
  · obtain ⟨m1, m2, m3⟩ := n1 rfl
    rw [rsn_m] at h0
    have hg : gm S < 6 := by
      by_cases c : gm S = 6
      · rw [if_pos c] at h0; omega
      · omega
    obtain ⟨o1, e1, f1, s1⟩ := makes_e hS hB hg a b c
    rw [if_neg (show ¬ (I 109 = I 99) by decide), if_pos (show I 109 = I 109 from rfl), m1, m2, m3, e1, bn_e, dos_m]
    exact ⟨_, o1, rfl, f1, s1⟩
  · obtain ⟨m1, m2⟩ := n2 (Or.inl rfl)
    rw [rsn_c] at h0
    rw [if_pos (show I 99 = I 99 from rfl), m1, m2, dos_c]
    by_cases g : 0 ≤ a ∧ a < (gm S : Int)
    · rw [if_pos g] at h0
      obtain ⟨k, rfl⟩ : ∃ k : Nat, a = (k : Int) := ⟨a.toNat, by omega⟩
      have hk : k < gm S := by omega
      rw [show ((k : Int)).toNat = k from rfl] at h0 ⊢
      obtain ⟨o1, e1, f1, s1⟩ := measures_e hS hB (by omega) (hB.g hk) (by omega) v2.1 (by omega) h0
      rw [e1, bn_e]
      exact ⟨_, o1, rfl, f1, s1⟩
    · rw [if_neg g] at h0; omega
  · have m1 := n3 (Or.inr rfl)
    rw [if_neg (show ¬ (I 121 = I 99) by decide), if_neg (show ¬ (I 121 = I 109) by decide), if_neg (show ¬ (I 121 = I 112) by decide), if_pos (show I 121 = I 121 from rfl), m1, dos_y]
    obtain ⟨k, rfl⟩ : ∃ k : Nat, a = (k : Int) := ⟨a.toNat, by omega⟩
    obtain ⟨o1, e1, f1, s1⟩ := passes_e hS hB (n := k) (by omega) (by omega)
    rw [e1, bn_e]
    exact ⟨_, o1, rfl, f1, s1⟩
  · have m1 := n3 (Or.inl rfl)
    rw [rsn_p] at h0
    rw [if_neg (show ¬ (I 112 = I 99) by decide), if_neg (show ¬ (I 112 = I 109) by decide), if_pos (show I 112 = I 112 from rfl), m1, dos_p]
    by_cases g : 0 ≤ a ∧ a < (gm S : Int)
    · obtain ⟨k, rfl⟩ : ∃ k : Nat, a = (k : Int) := ⟨a.toNat, by omega⟩
      rw [show ((k : Int)).toNat = k from rfl]
      obtain ⟨o1, e1, f1, s1⟩ := mseals_e hS (show k < 6 by omega)
      rw [e1, bn_e]
      exact ⟨_, o1, rfl, f1, s1⟩
    · rw [if_neg g] at h0; omega
  · obtain ⟨m1, m2⟩ := n2 (Or.inr rfl)
    rw [if_neg (show ¬ (I 98 = I 99) by decide), if_neg (show ¬ (I 98 = I 109) by decide), if_neg (show ¬ (I 98 = I 112) by decide), if_neg (show ¬ (I 98 = I 121) by decide), m1, m2, dos_b]
    obtain ⟨o1, e1, f1, s1⟩ := fills_e hS (b := a) (by omega) (by omega) b
    rw [e1, bn_e]
    exact ⟨_, o1, rfl, f1, s1⟩
end
