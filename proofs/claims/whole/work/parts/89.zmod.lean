/-! the model's digest -/
section
variable {o : OM} {S : Int → Int} {g Y : Nat} {q : Qt}
theorem mod4 {a : Int} (h1 : 0 ≤ a) (h2 : a < 2147483648) : I a / I 4 = I (a / 4) ∧ I a - I (a / 4) * I 4 = I (a % 4) := by
  refine ⟨by rw [I_div (by omega) h2 (by omega) (by omega), Int.tdiv_eq_ediv_of_nonneg h1], ?_⟩
  rw [I_mul, I_sub]
  congr 1
  omega
theorem mg2 (hS : MS o S) (hB : SB S Y) (hY : Y ≤ 1000000) (hg : g < gm S) (kk : OM → Option (Unit × OM)) : ∀ (n fuel i : Nat) (h : Int64), n < fuel → i + n = 9 → LX6_digestGlass_2 kk (I (g : Int)) fuel (wrL o 19 h) (I (i : Int)) = kk (wrL o 19 (hs (fun w => ofg S g (w : Int)) n i h)) := by
  intro n
  induction n with
  | zero =>
    intro fuel i h h1 h2
    obtain ⟨f, rfl⟩ : ∃ f, fuel = f + 1 := ⟨fuel - 1, by omega⟩
    rw [LX6_digestGlass_2.eq_2]
    dsimp only
    rw [show (9 : Int32) = I 9 from rfl, if_pos (by rw [I_le (by omega) (by omega) (by omega) (by omega)]; omega)]
    rfl
  | succ n ih =>
    intro fuel i h h1 h2
    obtain ⟨f, rfl⟩ : ∃ f, fuel = f + 1 := ⟨fuel - 1, by omega⟩
    rw [LX6_digestGlass_2.eq_2]
    dsimp only
    rw [show (9 : Int32) = I 9 from rfl, show (1 : Int32) = I 1 from rfl, if_neg (by rw [I_le (by omega) (by omega) (by omega) (by omega)]; omega), ofGlass_e (hS.L h) hB hY hg (by omega) (by omega), bq_e, done_e, bn_e, I_add, bd_e]
    exact ih f (i + 1) _ (by omega) (by omega)
theorem mg27 (hS : MS o S) (hB : SB S Y) (hg : g < gm S) (kk : OM → Option (Unit × OM)) : ∀ (n fuel i : Nat) (h : Int64), n < fuel → i + n = 4 * gn S g → LX6_digestGlass_27 kk (I (g : Int)) fuel (wrL o 19 h) (I (i : Int)) = kk (wrL o 19 (hs (fun k => ofp S g ((k / 4 : Nat) : Int) ((k % 4 : Nat) : Int)) n i h)) := by
  have hm := hB.m
  have hn10 := (hB.g hg).p.1
  have hn := (hB.g hg).n
  intro n
  induction n with
  | zero =>
    intro fuel i h h1 h2
    obtain ⟨f, rfl⟩ : ∃ f, fuel = f + 1 := ⟨fuel - 1, by omega⟩
    rw [LX6_digestGlass_27.eq_2]
    dsimp only
    rw [show (7 : Int32) = I 7 from rfl, show (4 : Int32) = I 4 from rfl, get7 (hS.L h) (show g < 6 by omega) hn, bq_e, I_mul, if_pos (by rw [I_le (by omega) (by omega) (by omega) (by omega)]; omega)]
    rfl
  | succ n ih =>
    intro fuel i h h1 h2
    obtain ⟨f, rfl⟩ : ∃ f, fuel = f + 1 := ⟨fuel - 1, by omega⟩
    have d4 : decide (¬ (I 4) = 0) = true := by decide
    obtain ⟨q1, q2⟩ := mod4 (a := (i : Int)) (by omega) (by omega)
    rw [LX6_digestGlass_27.eq_2]
    dsimp only
    rw [show (7 : Int32) = I 7 from rfl, show (4 : Int32) = I 4 from rfl, show (1 : Int32) = I 1 from rfl, get7 (hS.L h) (show g < 6 by omega) hn, bq_e, I_mul, if_neg (by rw [I_le (by omega) (by omega) (by omega) (by omega)]; omega), d4, grd_e, grd_e, q1, q2, ofPoint_e (hS.L h) hB hg (by omega) (by omega) (by omega) (by omega), bq_e, done_e, bn_e, I_add, bd_e]
    exact ih f (i + 1) _ (by omega) (by omega)
theorem mg96 (hS : MS o S) (hB : SB S Y) (hg : g < gm S) (kk : OM → Option (Unit × OM)) : ∀ (n fuel i : Nat) (h : Int64), n < fuel → i + n = 6 → LX6_digestGlass_96 kk (I (g : Int)) fuel (wrL o 19 h) (I (i : Int)) = kk (wrL o 19 (hs (fun k => cor S g (c6 k)) n i h)) := by
  have hm := hB.m
  intro n
  induction n with
  | zero =>
    intro fuel i h h1 h2
    obtain ⟨f, rfl⟩ : ∃ f, fuel = f + 1 := ⟨fuel - 1, by omega⟩
    rw [LX6_digestGlass_96.eq_2]
    dsimp only
    rw [show (6 : Int32) = I 6 from rfl, if_pos (by rw [I_le (by omega) (by omega) (by omega) (by omega)]; omega)]
    rfl
  | succ n ih =>
    intro fuel i h h1 h2
    obtain ⟨f, rfl⟩ : ∃ f, fuel = f + 1 := ⟨fuel - 1, by omega⟩
    have ec : ∀ K : Int32 → Option (Unit × OM), (if I 2 ≤ I (i : Int) then (if I 4 ≤ I (i : Int) then K (I 1100) else K (I 500)) else K (I 0)) = K (I (c6 i)) := fun K => by
      unfold c6
      by_cases a1 : i < 2
      · rw [if_neg (by rw [I_le (by omega) (by omega) (by omega) (by omega)]; omega), if_pos a1]
      · rw [if_pos (by rw [I_le (by omega) (by omega) (by omega) (by omega)]; omega), if_neg a1]
        by_cases a2 : i < 4
        · rw [if_neg (by rw [I_le (by omega) (by omega) (by omega) (by omega)]; omega), if_pos a2]
        · rw [if_pos (by rw [I_le (by omega) (by omega) (by omega) (by omega)]; omega), if_neg a2]
    have c0 := c6_rg i
    rw [LX6_digestGlass_96.eq_2]
    dsimp only
    rw [show (6 : Int32) = I 6 from rfl, show (1 : Int32) = I 1 from rfl, show (2 : Int32) = I 2 from rfl, show (4 : Int32) = I 4 from rfl, show (1100 : Int32) = I 1100 from rfl, show (500 : Int32) = I 500 from rfl, show (0 : Int32) = I 0 from rfl, if_neg (by rw [I_le (by omega) (by omega) (by omega) (by omega)]; omega), bd_e]
    refine (ec (fun (s_32 : Int32) => bq (F_X6_correctedOr (wrL o 19 h) (I (g : Int)) s_32) (fun r_33 => bn (F_X6_digestOne (wrL o 19 h) r_33.toInt64) (fun _ o_35 => bd (I (i : Int) + I 1) (fun v2_36 : Int32 => (LX6_digestGlass_96 kk (I (g : Int)) f) o_35 v2_36))))).trans ?_
    rw [correctedOr_e (hS.L h) (hB.g hg) (by omega) (by omega) (by omega), bq_e, done_e, bn_e, I_add, bd_e]
    exact ih f (i + 1) _ (by omega) (by omega)
theorem mg143 (hS : MS o S) (hB : SB S Y) (hg : g < gm S) (kk : OM → Option (Unit × OM)) : ∀ (n fuel i : Nat) (h : Int64), n < fuel → i + n = 4 → LX6_digestGlass_143 kk (I (g : Int)) fuel (wrL o 19 h) (I (i : Int)) = kk (wrL o 19 (hs (fun b => hnd S g (S (229 + (b : Int)))) n i h)) := by
  have hm := hB.m
  intro n
  induction n with
  | zero =>
    intro fuel i h h1 h2
    obtain ⟨f, rfl⟩ : ∃ f, fuel = f + 1 := ⟨fuel - 1, by omega⟩
    rw [LX6_digestGlass_143.eq_2]
    dsimp only
    rw [show (4 : Int32) = I 4 from rfl, if_pos (by rw [I_le (by omega) (by omega) (by omega) (by omega)]; omega)]
    rfl
  | succ n ih =>
    intro fuel i h h1 h2
    obtain ⟨f, rfl⟩ : ∃ f, fuel = f + 1 := ⟨fuel - 1, by omega⟩
    rw [LX6_digestGlass_143.eq_2]
    dsimp only
    rw [show (4 : Int32) = I 4 from rfl, show (1 : Int32) = I 1 from rfl, if_neg (by rw [I_le (by omega) (by omega) (by omega) (by omega)]; omega), hindrance_e (hS.L h) hB (hB.g hg) (by omega) (by omega) (by omega), bq_e, done_e, bn_e, I_add, bd_e]
    exact ih f (i + 1) _ (by omega) (by omega)
theorem mg167 (hS : MS o S) (hB : SB S Y) (hg : g < gm S) (kk : OM → Option (Unit × OM)) : ∀ (n fuel i : Nat) (h : Int64), n < fuel → i + n = gm S → LX6_digestGlass_167 kk (I (g : Int)) fuel (wrL o 19 h) (I (i : Int)) = kk (wrL o 19 (hs (fun j => ovl S g j 500) n i h)) := by
  have hm := hB.m
  intro n
  induction n with
  | zero =>
    intro fuel i h h1 h2
    obtain ⟨f, rfl⟩ : ∃ f, fuel = f + 1 := ⟨fuel - 1, by omega⟩
    have c3 := hS.L h 228 (by omega) (by omega)
    rw [hm.1] at c3
    rw [LX6_digestGlass_167.eq_2]
    dsimp only
    rw [show (228 : Int32) = I 228 from rfl, I_inB (a := 228) (by omega) (by omega) (by omega), grd_e, c3, if_pos (by rw [I_le (by omega) (by omega) (by omega) (by omega)]; omega)]
    rfl
  | succ n ih =>
    intro fuel i h h1 h2
    obtain ⟨f, rfl⟩ : ∃ f, fuel = f + 1 := ⟨fuel - 1, by omega⟩
    have c3 := hS.L h 228 (by omega) (by omega)
    rw [hm.1] at c3
    rw [LX6_digestGlass_167.eq_2]
    dsimp only
    rw [show (228 : Int32) = I 228 from rfl, I_inB (a := 228) (by omega) (by omega) (by omega), grd_e, c3, show (500 : Int32) = I 500 from rfl, show (1 : Int32) = I 1 from rfl, if_neg (by rw [I_le (by omega) (by omega) (by omega) (by omega)]; omega), overlapOf_e (hS.L h) (hB.g hg) (hB.g (g := i) (by omega)) (by omega) (by omega) (by omega) (by omega), bq_e, done_e, bn_e, I_add, bd_e]
    exact ih f (i + 1) _ (by omega) (by omega)
theorem mglass_e (hS : MS o S) (hB : SB S Y) (hY : Y ≤ 1000000) (hg : g < gm S) (h : Int64) : F_X6_digestGlass (wrL o 19 h) (I (g : Int)) = some ((), wrL o 19 (dgG S g h)) := by
  have hm := hB.m
  have hn10 := (hB.g hg).p.1
  have hFU : 100 < FU := by unfold FU; omega
  unfold F_X6_digestGlass dgG
  generalize FU = F at hFU ⊢
  rw [show (0 : Int32) = I ((0 : Nat) : Int) from rfl, show (1000 : Int32) = I 1000 from rfl, bd_e, mg2 hS hB hY hg _ 9 F 0 h (by omega) (by omega), bd_e, mg27 hS hB hg _ (4 * gn S g) F 0 _ (by omega) (by omega), show I ((0 : Nat) : Int) = I 0 from rfl, readingOf_e (hS.L _) (hB.g hg) (by omega) (by omega) (by omega), bq_e, show (10000 : Int32) = I 10000 from rfl, I_add, done_e, bn_e, readingOf_e (hS.L _) (hB.g hg) (by omega) (by omega) (by omega), bq_e, I_add, done_e, bn_e, bd_e, show I 0 = I ((0 : Nat) : Int) from rfl, mg96 hS hB hg _ 6 F 0 _ (by omega) (by omega), bd_e, mg143 hS hB hg _ 4 F 0 _ (by omega) (by omega), bd_e, mg167 hS hB hg _ (gm S) F 0 _ (by omega) (by omega), worst_e (hS.L _) (hB.g hg) (hB.g (g := 0) (by omega)) (by omega) (by omega), bq_e, done_e, bn_e, myears_e (hS.L _) hB hY (hB.g hg) (by omega), bq_e, done_e, bn_e]
theorem md14 (hS : MS o S) (hB : SB S Y) (hY : Y ≤ 1000000) {m : Nat} (h3 : rd o 19 0 3 = I (m : Int)) (kk : OM → Option (Int64 × OM)) : ∀ (n fuel i : Nat) (h : Int64), n < fuel → i + n = 18 → LX6_digest_14 kk fuel (wrL o 19 h) (I (i : Int)) = kk (wrL o 19 (hs (fun w => cts S m (w : Int)) n i h)) := by
  intro n
  induction n with
  | zero =>
    intro fuel i h h1 h2
    obtain ⟨f, rfl⟩ : ∃ f, fuel = f + 1 := ⟨fuel - 1, by omega⟩
    rw [LX6_digest_14.eq_2]
    dsimp only
    rw [show (18 : Int32) = I 18 from rfl, if_pos (by rw [I_le (by omega) (by omega) (by omega) (by omega)]; omega)]
    rfl
  | succ n ih =>
    intro fuel i h h1 h2
    obtain ⟨f, rfl⟩ : ∃ f, fuel = f + 1 := ⟨fuel - 1, by omega⟩
    rw [LX6_digest_14.eq_2]
    dsimp only
    rw [show (18 : Int32) = I 18 from rfl, show (1 : Int32) = I 1 from rfl, if_neg (by rw [I_le (by omega) (by omega) (by omega) (by omega)]; omega), counted_e (hS.L h) hB hY (m := m) h3 (by omega) (by omega), bq_e, done_e, bn_e, I_add, bd_e]
    exact ih f (i + 1) _ (by omega) (by omega)
theorem md38 (hS : MS o S) (hB : SB S Y) (hY : Y ≤ 1000000) (kk : OM → Option (Int64 × OM)) : ∀ (n fuel i : Nat) (h : Int64), n < fuel → i + n = gm S → LX6_digest_38 kk fuel (wrL o 19 h) (I (i : Int)) = kk (wrL o 19 (hg S n i h)) := by
  have hm := hB.m
  intro n
  induction n with
  | zero =>
    intro fuel i h h1 h2
    obtain ⟨f, rfl⟩ : ∃ f, fuel = f + 1 := ⟨fuel - 1, by omega⟩
    have c3 := hS.L h 228 (by omega) (by omega)
    rw [hm.1] at c3
    rw [LX6_digest_38.eq_2]
    dsimp only
    rw [show (228 : Int32) = I 228 from rfl, I_inB (a := 228) (by omega) (by omega) (by omega), grd_e, c3, if_pos (by rw [I_le (by omega) (by omega) (by omega) (by omega)]; omega)]
    rfl
  | succ n ih =>
    intro fuel i h h1 h2
    obtain ⟨f, rfl⟩ : ∃ f, fuel = f + 1 := ⟨fuel - 1, by omega⟩
    have c3 := hS.L h 228 (by omega) (by omega)
    rw [hm.1] at c3
    rw [LX6_digest_38.eq_2]
    dsimp only
    rw [show (228 : Int32) = I 228 from rfl, I_inB (a := 228) (by omega) (by omega) (by omega), grd_e, c3, show (1 : Int32) = I 1 from rfl, if_neg (by rw [I_le (by omega) (by omega) (by omega) (by omega)]; omega), mglass_e hS hB hY (g := i) (by omega), bn_e, I_add, bd_e]
    exact ih f (i + 1) _ (by omega) (by omega)
theorem md109 {L : Nat} {B : Nat → Int} (hW : WM o L B) (hL : L ≤ 60) (kk : OM → Option (Int64 × OM)) : ∀ (n fuel i : Nat) (h : Int64), n < fuel → i + n = L → LX6_digest_109 kk fuel (wrL o 19 h) (I (i : Int)) = kk (wrL o 19 (hs B n i h)) := by
  have w1 : ∀ h, rd (wrL o 19 h) 19 0 7 = I (L : Int) := fun _ => hW.1
  have w2 : ∀ h k, k < L → rd (wrL o 19 h) 23 0 k = I (B k) := fun _ k hk => hW.2 k hk
  intro n
  induction n with
  | zero =>
    intro fuel i h h1 h2
    obtain ⟨f, rfl⟩ : ∃ f, fuel = f + 1 := ⟨fuel - 1, by omega⟩
    rw [LX6_digest_109.eq_2]
    dsimp only
    rw [w1, if_pos (by rw [I_le (by omega) (by omega) (by omega) (by omega)]; omega)]
    rfl
  | succ n ih =>
    intro fuel i h h1 h2
    obtain ⟨f, rfl⟩ : ∃ f, fuel = f + 1 := ⟨fuel - 1, by omega⟩
    rw [LX6_digest_109.eq_2]
    dsimp only
    rw [w1, show (1 : Int32) = I 1 from rfl, if_neg (by rw [I_le (by omega) (by omega) (by omega) (by omega)]; omega), I_inB (a := (i : Int)) (by omega) (by omega) (by omega), grd_e, I_tcN (by omega), w2 _ i (by omega), done_e, bn_e, I_add, bd_e]
    exact ih f (i + 1) _ (by omega) (by omega)
theorem mdigest_e (hR : RM o S q) (hb : RB S q Y) (hY : Y ≤ 700000) : F_X6_digest o = some (dgs S q.1.1 q.2.2.1 q.2.2.2, wrL (wr o 19 0 0 (I 0)) 19 (dgs S q.1.1 q.2.2.1 q.2.2.2)) := by
  have hB := hb.1
  have hL := hb.2.2.2.2.2.1
  obtain ⟨p, hp⟩ : ∃ p, p = wr o 19 0 0 (I 0) := ⟨_, rfl⟩
  have hRp : RM p S q := by rw [hp]; exact hR.w19 _ (by omega)
  obtain ⟨hS, h2, h3, h4, h5⟩ := hRp
  have y0 : ∀ h, rd (wrL p 19 h) 20 0 (I 242).toNatClampNeg = I (S 242) := fun h => hS 242 (by omega) (by omega)
  have y1 : ∀ h, rd (wrL p 19 h) 20 0 (I 243).toNatClampNeg = I (S 243) := fun h => hS 243 (by omega) (by omega)
  have w1 : ∀ h, rd (wrL p 19 h) 19 0 7 = I (q.2.2.1 : Int) := fun _ => h5.1
  have hm := hB.m
  have hFU : 100 < FU := by unfold FU; omega
  unfold F_X6_digest dgs
  generalize FU = F at hFU ⊢
  rw [show (0 : Int32) = I 0 from rfl, ← hp, bd_e, bd_e, bd_e, show I 0 = I ((0 : Nat) : Int) from rfl, md14 hS hB (by omega) h2.1 _ 18 F 0 _ (by omega) (by omega), bd_e, md38 hS hB (by omega) _ (gm S) F 0 _ (by omega) (by omega), show (242 : Int32) = I 242 from rfl, show (243 : Int32) = I 243 from rfl, I_inB (a := 242) (by omega) (by omega) (by omega), grd_e, y0, done_e, bn_e, I_inB (a := 243) (by omega) (by omega) (by omega), grd_e, y1, done_e, bn_e, mshare_e (hS.L _) hB (by omega), bq_e, mbits_e _ hB, bq_e, done_w, bn_e, w1, done_e, bn_e, bd_e, md109 h5 hL _ q.2.2.1 F 0 _ (by omega) (by omega), wL_r]
end
