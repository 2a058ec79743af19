/-! the share and its bits -/
def shv (m n : Nat) : UInt64 := if m = 0 then FP.dconst1 else FP.ddiv (FP.i2d (I (n : Int))) (FP.i2d (I (m : Int)))
theorem shv_ok : ∀ m, m < 7 → ∀ n, n < 7 → n ≤ m → n64 (shv m n) = true ∧ Op.cmpValue (FP.dcmp (shv m n) (shv m n)) .l = 0 ∧ F_X5_bitsOf o0 (shv m n) = F_X6_bitsOf o0 (shv m n) ∧ (F_X6_bitsOf o0 (shv m n)).isSome = true := by decide +kernel
def bts (m n : Nat) : Int64 := (F_X6_bitsOf o0 (shv m n)).getD 0
section
variable {o : OM} {S : Int → Int} {g Y : Nat} {q : Qt}
def shn (S : Int → Int) : Nat := (sof S 3).toNat
theorem shn_rg (hB : SB S Y) : sof S 3 = (shn S : Int) ∧ shn S ≤ gm S ∧ shn S < 7 ∧ gm S < 7 := by
  have hm := hB.m
  have h := sm_rg (f := fun g => val S g) (n := gm S) (M := 1) (fun k _ => by rcases val_01 S k with e | e <;> (show 0 ≤ val S k ∧ val S k ≤ 1) <;> omega) (by omega)
  have e : sof S 3 = sm (fun g => val S g) (gm S) := rfl
  unfold shn
  omega
theorem cshare_e (hC : CS o 0 S) (hB : SB S Y) (hY : Y ≤ 1000000) : F_X5_validShare o = some (shv (gm S) (shn S)) := by
  have hm := hB.m
  obtain ⟨e1, e2, e3, e4⟩ := shn_rg hB
  have hk := (shv_ok _ e4 _ e3 e2).1
  have c2 := hC.2.2.1
  rw [hm.1] at c2
  have hv := validPapers_e hC hB hY
  rw [e1] at hv
  unfold F_X5_validShare
  rw [c2]
  by_cases h : gm S = 0
  · rw [h, if_pos (by decide)]
    rfl
  · have es : shv (gm S) (shn S) = FP.ddiv (FP.i2d (I (shn S : Int))) (FP.i2d (I (gm S : Int))) := if_neg h
    rw [show (0 : Int32) = I 0 from rfl, if_neg (fun z => by have := I_inj (by omega) (by omega) (by omega) (by omega) z; omega), hv, bq_e, bd_e, ← es, hk, grd_e]
theorem mshare_e (hS : MS o S) (hB : SB S Y) (hY : Y ≤ 1000000) : F_X6_share o = some (shv (gm S) (shn S)) := by
  have hm := hB.m
  obtain ⟨e1, e2, e3, e4⟩ := shn_rg hB
  have hk := (shv_ok _ e4 _ e3 e2).1
  have c2 := hS 228 (by omega) (by omega)
  rw [hm.1] at c2
  have hv := sumOf_e hS hB hY (w := 3) (by omega)
  rw [e1] at hv
  unfold F_X6_share
  simp only [I_lit]
  rw [I_inB (a := 228) (by omega) (by omega) (by omega), grd_e, bd_e, c2]
  by_cases h : gm S = 0
  · rw [h, if_pos (by decide)]
    rfl
  · have es : shv (gm S) (shn S) = FP.ddiv (FP.i2d (I (shn S : Int))) (FP.i2d (I (gm S : Int))) := if_neg h
    rw [if_neg (fun z => by have := I_inj (by omega) (by omega) (by omega) (by omega) z; omega), hv, bq_e, grd_e, bd_e, ← es, hk, grd_e]
theorem cbits_e (o : OM) (hB : SB S Y) : F_X5_bitsOf o (shv (gm S) (shn S)) = some (bts (gm S) (shn S)) := by
  obtain ⟨e1, e2, e3, e4⟩ := shn_rg hB
  obtain ⟨-, -, k1, k2⟩ := shv_ok _ e4 _ e3 e2
  have e : F_X5_bitsOf o (shv (gm S) (shn S)) = F_X5_bitsOf o0 (shv (gm S) (shn S)) := rfl
  rw [e, k1]
  obtain ⟨x, hx⟩ := Option.isSome_iff_exists.mp k2
  unfold bts
  rw [hx]
  rfl
theorem mbits_e (o : OM) (hB : SB S Y) : F_X6_bitsOf o (shv (gm S) (shn S)) = some (bts (gm S) (shn S)) := by
  obtain ⟨e1, e2, e3, e4⟩ := shn_rg hB
  obtain ⟨-, -, k1, k2⟩ := shv_ok _ e4 _ e3 e2
  have e : F_X6_bitsOf o (shv (gm S) (shn S)) = F_X6_bitsOf o0 (shv (gm S) (shn S)) := rfl
  rw [e]
  obtain ⟨x, hx⟩ := Option.isSome_iff_exists.mp k2
  unfold bts
  rw [hx]
  rfl
/-! the digest -/
def v6 (z : Int) : Int64 := (I z).toInt64
def mx1 (h v : Int64) : Int64 := 31 * h + v
def hs (f : Nat → Int) : Nat → Nat → Int64 → Int64
  | 0, _, h => h
  | n + 1, i, h => hs f n (i + 1) (mx1 h (v6 (f i)))
theorem mixed_e (o : OM) (h : Int64) (z : Int) : F_X5_mixed o h (I z).toInt64 = some (mx1 h (v6 z)) := rfl
theorem wL_r (o : OM) (h : Int64) : rdL (wrL o 19 h) 19 = h := by simp [rdL, wrL]
theorem wL_w (o : OM) (h h' : Int64) : wrL (wrL o 19 h) 19 h' = wrL o 19 h' := by
  unfold wrL
  refine Prod.ext rfl (funext fun a => ?_)
  show (if a = 19 then h' else if a = 19 then h else o.2 a) = if a = 19 then h' else o.2 a
  by_cases c : a = 19
  · rw [if_pos c, if_pos c]
  · rw [if_neg c, if_neg c, if_neg c]
theorem done_e (o : OM) (h : Int64) (z : Int) : F_X6_digestOne (wrL o 19 h) (I z).toInt64 = some ((), wrL o 19 (mx1 h (v6 z))) := by
  unfold F_X6_digestOne
  rw [bd_e, wL_r, wL_w]
  rfl
theorem done_w (o : OM) (h v : Int64) : F_X6_digestOne (wrL o 19 h) v = some ((), wrL o 19 (mx1 h v)) := by
  unfold F_X6_digestOne
  rw [bd_e, wL_r, wL_w]
  rfl
theorem MS.L (hS : MS o S) (h : Int64) : MS (wrL o 19 h) S := hS
/-- numbers of one thermometer -/
def c6 (k : Nat) : Int := if k < 2 then 0 else if k < 4 then 500 else 1100
noncomputable def dgG (S : Int → Int) (g : Nat) (h : Int64) : Int64 :=
  mx1 (mx1 (hs (fun j => ovl S g j 500) (gm S) 0 (hs (fun b => hnd S g (S (229 + (b : Int)))) 4 0 (hs (fun k => cor S g (c6 k)) 6 0 (mx1 (mx1 (hs (fun k => ofp S g ((k / 4 : Nat) : Int) ((k % 4 : Nat) : Int)) (4 * gn S g) 0 (hs (fun w => ofg S g (w : Int)) 9 0 h)) (v6 (rdg S g 0 + 10000))) (v6 (rdg S g 1000 + 10000)))))) (v6 (wst S g 0))) (v6 (vdf S g))
theorem cn6 (hC : CS o 0 S) (hB : SB S Y) (hY : Y ≤ 1000000) (hg : g < gm S) (kk : OM → Int64 → Option ((Nat × Int64) × OM)) : ∀ (n fuel i : Nat) (h : Int64), n < fuel → i + n = 9 → LX5_mixedNumbers_6 kk (I (g : Int)) fuel o h (I (i : Int)) = kk o (hs (fun w => ofg S g (w : Int)) n i h) := by
  intro n
  induction n with
  | zero =>
    intro fuel i h h1 h2
    obtain ⟨f, rfl⟩ : ∃ f, fuel = f + 1 := ⟨fuel - 1, by omega⟩
    rw [LX5_mixedNumbers_6.eq_2]
    dsimp only
    rw [show (8 : Int32) = I 8 from rfl, if_pos (by rw [I_lt (by omega) (by omega) (by omega) (by omega)]; omega)]
    rfl
  | succ n ih =>
    intro fuel i h h1 h2
    obtain ⟨f, rfl⟩ : ∃ f, fuel = f + 1 := ⟨fuel - 1, by omega⟩
    rw [LX5_mixedNumbers_6.eq_2]
    dsimp only
    rw [show (8 : Int32) = I 8 from rfl, show (1 : Int32) = I 1 from rfl, if_neg (by rw [I_lt (by omega) (by omega) (by omega) (by omega)]; omega), x_thermo hC hB hY hg (by omega) (by omega), bx_0, mixed_e, bq_e, I_add, bd_e]
    exact ih f (i + 1) _ (by omega) (by omega)
theorem cn64 (hC : CS o 0 S) (hB : SB S Y) (hg : g < gm S) {p : Nat} (hp : p < 10) (kk : OM → Int64 → Option ((Nat × Int64) × OM)) : ∀ (n fuel i : Nat) (h : Int64), n < fuel → i + n = 4 → LX5_mixedNumbers_64 kk (I (g : Int)) (I (p : Int)) fuel o h (I (i : Int)) = kk o (hs (fun w => ofp S g (p : Int) (w : Int)) n i h) := by
  intro n
  induction n with
  | zero =>
    intro fuel i h h1 h2
    obtain ⟨f, rfl⟩ : ∃ f, fuel = f + 1 := ⟨fuel - 1, by omega⟩
    rw [LX5_mixedNumbers_64.eq_2]
    dsimp only
    rw [show (3 : Int32) = I 3 from rfl, if_pos (by rw [I_lt (by omega) (by omega) (by omega) (by omega)]; omega)]
    rfl
  | succ n ih =>
    intro fuel i h h1 h2
    obtain ⟨f, rfl⟩ : ∃ f, fuel = f + 1 := ⟨fuel - 1, by omega⟩
    rw [LX5_mixedNumbers_64.eq_2]
    dsimp only
    rw [show (3 : Int32) = I 3 from rfl, show (1 : Int32) = I 1 from rfl, if_neg (by rw [I_lt (by omega) (by omega) (by omega) (by omega)]; omega), x_point hC hB hg (by omega) (by omega) (by omega) (by omega), bx_0, mixed_e, bq_e, I_add, bd_e]
    exact ih f (i + 1) _ (by omega) (by omega)
theorem hs_4 (F : Int → Int → Int) (n p : Nat) (h : Int64) : hs (fun k => F ((k / 4 : Nat) : Int) ((k % 4 : Nat) : Int)) (4 * (n + 1)) (4 * p) h = hs (fun k => F ((k / 4 : Nat) : Int) ((k % 4 : Nat) : Int)) (4 * n) (4 * (p + 1)) (hs (fun w => F (p : Int) (w : Int)) 4 0 h) := by
  have e : 4 * (n + 1) = 4 * n + 1 + 1 + 1 + 1 := by omega
  rw [e]
  simp only [hs]
  rw [show 4 * p / 4 = p from by omega, show 4 * p % 4 = 0 from by omega, show (4 * p + 1) / 4 = p from by omega, show (4 * p + 1) % 4 = 1 from by omega, show (4 * p + 1 + 1) / 4 = p from by omega, show (4 * p + 1 + 1) % 4 = 2 from by omega, show (4 * p + 1 + 1 + 1) / 4 = p from by omega, show (4 * p + 1 + 1 + 1) % 4 = 3 from by omega, show 4 * p + 1 + 1 + 1 + 1 = 4 * (p + 1) from by omega]
theorem cn54 (hC : CS o 0 S) (hB : SB S Y) (hg : g < gm S) (kk : OM → Int64 → Option ((Nat × Int64) × OM)) : ∀ (n fuel i : Nat) (h : Int64), n < fuel → i + n = gn S g → LX5_mixedNumbers_54 kk (I (gn S g : Int)) (I (g : Int)) fuel o h (I (i : Int)) = kk o (hs (fun k => ofp S g ((k / 4 : Nat) : Int) ((k % 4 : Nat) : Int)) (4 * n) (4 * i) h) := by
  have hn10 := (hB.g hg).p.1
  intro n
  induction n with
  | zero =>
    intro fuel i h h1 h2
    obtain ⟨f, rfl⟩ : ∃ f, fuel = f + 1 := ⟨fuel - 1, by omega⟩
    rw [LX5_mixedNumbers_54.eq_2]
    dsimp only
    rw [if_pos (by rw [I_le (by omega) (by omega) (by omega) (by omega)]; omega)]
    rfl
  | succ n ih =>
    intro fuel i h h1 h2
    obtain ⟨f, rfl⟩ : ∃ f, fuel = f + 1 := ⟨fuel - 1, by omega⟩
    have hFU : 100 < FU := by unfold FU; omega
    rw [LX5_mixedNumbers_54.eq_2]
    dsimp only
    generalize FU = F at hFU ⊢
    rw [show (0 : Int32) = I ((0 : Nat) : Int) from rfl, show (1 : Int32) = I 1 from rfl, if_neg (by rw [I_le (by omega) (by omega) (by omega) (by omega)]; omega), bd_e, cn64 hC hB hg (p := i) (by omega) _ 4 F 0 h (by omega) (by omega), I_add, bd_e, hs_4 (ofp S g)]
    exact ih f (i + 1) _ (by omega) (by omega)
theorem cnumbers_e (hC : CS o 0 S) (hB : SB S Y) (hY : Y ≤ 1000000) (hg : g < gm S) (h : Int64) : F_X5_mixedNumbers o h (I (g : Int)) = some ((0, hs (fun k => ofp S g ((k / 4 : Nat) : Int) ((k % 4 : Nat) : Int)) (4 * gn S g) 0 (hs (fun w => ofg S g (w : Int)) 9 0 h)), o) := by
  have hm := hB.m
  have hn10 := (hB.g hg).p.1
  have hn := (hC.t hg).n
  have hFU : 100 < FU := by unfold FU; omega
  unfold F_X5_mixedNumbers
  generalize FU = F at hFU ⊢
  rw [show (0 : Int32) = I ((0 : Nat) : Int) from rfl, bd_e, cn6 hC hB hY hg _ 9 F 0 h (by omega) (by omega), I_inB (a := (g : Int)) (by omega) (by omega) (by omega), grd_e, I_tcN (by omega), bd_e, hn, bd_e, bd_e, cn54 hC hB hg _ (gn S g) F 0 _ (by omega) (by omega)]
theorem fHR_e : ∀ n : Nat, n < 3 → fHR n = I (c6 (2 * n)) ∧ fHR n = I (c6 (2 * n + 1)) := by decide +kernel
theorem c6_rg (k : Nat) : 0 ≤ c6 k ∧ c6 k ≤ 1100 := by
  unfold c6
  split
  · omega
  · split <;> omega
theorem hs_2 (F : Nat → Int) (n p : Nat) (h : Int64) : hs F (2 * (n + 1)) (2 * p) h = hs F (2 * n) (2 * (p + 1)) (mx1 (mx1 h (v6 (F (2 * p)))) (v6 (F (2 * p + 1)))) := by
  have e : 2 * (n + 1) = 2 * n + 1 + 1 := by omega
  rw [e]
  simp only [hs]
  rw [show 2 * p + 1 + 1 = 2 * (p + 1) from by omega]
theorem cr42 (hC : CS o 0 S) (hB : SB S Y) (hg : g < gm S) (kk : OM → Int64 → Option ((Nat × Int64) × OM)) : ∀ (n fuel i : Nat) (h : Int64), n < fuel → i + n = 3 → LX5_mixedReadings_42 kk (I (g : Int)) fuel o h (I (i : Int)) = kk o (hs (fun k => cor S g (c6 k)) (2 * n) (2 * i) h) := by
  intro n
  induction n with
  | zero =>
    intro fuel i h h1 h2
    obtain ⟨f, rfl⟩ : ∃ f, fuel = f + 1 := ⟨fuel - 1, by omega⟩
    rw [LX5_mixedReadings_42.eq_2]
    dsimp only
    rw [show (3 : Int32) = I 3 from rfl, if_pos (by rw [I_le (by omega) (by omega) (by omega) (by omega)]; omega)]
    rfl
  | succ n ih =>
    intro fuel i h h1 h2
    obtain ⟨f, rfl⟩ : ∃ f, fuel = f + 1 := ⟨fuel - 1, by omega⟩
    obtain ⟨q1, q2⟩ := fHR_e i (by omega)
    have c0 := c6_rg (2 * i)
    have c1 := c6_rg (2 * i + 1)
    have ec : c6 (2 * i) = c6 (2 * i + 1) := I_inj (by omega) (by omega) (by omega) (by omega) (q1.symm.trans q2)
    rw [LX5_mixedReadings_42.eq_2]
    dsimp only
    rw [show (3 : Int32) = I 3 from rfl, show (1 : Int32) = I 1 from rfl, show (0 : Int32) = I 0 from rfl, if_neg (by rw [I_le (by omega) (by omega) (by omega) (by omega)]; omega), I_inB (a := (i : Int)) (by omega) (by omega) (by omega), grd_e, I_tcN (by omega), q1, bd_e, x_corrected hC hB hg (by omega) (by omega) (Or.inl rfl), bx_0, mixed_e, bq_e, x_corrected hC hB hg (by omega) (by omega) (Or.inr rfl), bx_0, mixed_e, bq_e, I_add, bd_e, hs_2]
    rw [← ec]
    exact ih f (i + 1) _ (by omega) (by omega)
theorem creadings_e (hC : CS o 0 S) (hB : SB S Y) (hg : g < gm S) (h : Int64) : F_X5_mixedReadings o h (I (g : Int)) = some ((0, hs (fun k => cor S g (c6 k)) 6 0 (mx1 (mx1 h (v6 (rdg S g 0 + 10000))) (v6 (rdg S g 1000 + 10000)))), o) := by
  have hFU : 100 < FU := by unfold FU; omega
  unfold F_X5_mixedReadings
  generalize FU = F at hFU ⊢
  rw [show (0 : Int32) = I 0 from rfl, show (1000 : Int32) = I 1000 from rfl, x_reads hC hB hg (by omega) (by omega), bx_0, mixed_e, bq_e, x_reads hC hB hg (by omega) (by omega), bx_0, mixed_e, bq_e, bd_e, show I 0 = I ((0 : Nat) : Int) from rfl, cr42 hC hB hg _ 3 F 0 _ (by omega) (by omega)]
theorem co6 (hC : CS o 0 S) (hB : SB S Y) (hg : g < gm S) (kk : OM → Int64 → Option ((Nat × Int64) × OM)) : ∀ (n fuel i : Nat) (h : Int64), n < fuel → i + n = 4 → LX5_mixedOutlook_6 kk (I (g : Int)) fuel o h (I (i : Int)) = kk o (hs (fun b => hnd S g (S (229 + (b : Int)))) n i h) := by
  intro n
  induction n with
  | zero =>
    intro fuel i h h1 h2
    obtain ⟨f, rfl⟩ : ∃ f, fuel = f + 1 := ⟨fuel - 1, by omega⟩
    rw [LX5_mixedOutlook_6.eq_2]
    dsimp only
    rw [show (3 : Int32) = I 3 from rfl, if_pos (by rw [I_lt (by omega) (by omega) (by omega) (by omega)]; omega)]
    rfl
  | succ n ih =>
    intro fuel i h h1 h2
    obtain ⟨f, rfl⟩ : ∃ f, fuel = f + 1 := ⟨fuel - 1, by omega⟩
    rw [LX5_mixedOutlook_6.eq_2]
    dsimp only
    rw [show (3 : Int32) = I 3 from rfl, show (1 : Int32) = I 1 from rfl, if_neg (by rw [I_lt (by omega) (by omega) (by omega) (by omega)]; omega), x_whyNot hC hB hg (by omega) (by omega), bx_0, mixed_e, bq_e, I_add, bd_e]
    exact ih f (i + 1) _ (by omega) (by omega)
theorem co36 (hC : CS o 0 S) (hB : SB S Y) (hg : g < gm S) (kk : OM → Int64 → Option ((Nat × Int64) × OM)) : ∀ (n fuel i : Nat) (h : Int64), n < fuel → i + n = gm S → LX5_mixedOutlook_36 kk (I (g : Int)) fuel o h (I (i : Int)) = kk o (hs (fun j => ovl S g j 500) n i h) := by
  have hm := hB.m
  have c3 := hC.2.2.1
  rw [hm.1] at c3
  intro n
  induction n with
  | zero =>
    intro fuel i h h1 h2
    obtain ⟨f, rfl⟩ : ∃ f, fuel = f + 1 := ⟨fuel - 1, by omega⟩
    rw [LX5_mixedOutlook_36.eq_2]
    dsimp only
    rw [c3, if_pos (by rw [I_le (by omega) (by omega) (by omega) (by omega)]; omega)]
    rfl
  | succ n ih =>
    intro fuel i h h1 h2
    obtain ⟨f, rfl⟩ : ∃ f, fuel = f + 1 := ⟨fuel - 1, by omega⟩
    rw [LX5_mixedOutlook_36.eq_2]
    dsimp only
    rw [c3, show (500 : Int32) = I 500 from rfl, show (1 : Int32) = I 1 from rfl, if_neg (by rw [I_le (by omega) (by omega) (by omega) (by omega)]; omega), x_overlap hC hB hg (h := i) (by omega) (by omega) (by omega), bx_0, mixed_e, bq_e, I_add, bd_e]
    exact ih f (i + 1) _ (by omega) (by omega)
theorem coutlook_e (hC : CS o 0 S) (hB : SB S Y) (hY : Y ≤ 1000000) (hg : g < gm S) (h : Int64) : F_X5_mixedOutlook o h (I (g : Int)) = some ((0, mx1 (mx1 (hs (fun j => ovl S g j 500) (gm S) 0 (hs (fun b => hnd S g (S (229 + (b : Int)))) 4 0 h)) (v6 (wst S g 0))) (v6 (vdf S g))), o) := by
  have hm := hB.m
  have hFU : 100 < FU := by unfold FU; omega
  unfold F_X5_mixedOutlook
  generalize FU = F at hFU ⊢
  rw [show (0 : Int32) = I ((0 : Nat) : Int) from rfl, bd_e, co6 hC hB hg _ 4 F 0 h (by omega) (by omega), bd_e, co36 hC hB hg _ (gm S) F 0 _ (by omega) (by omega), x_worst hC hB hg (h := 0) (by omega), bx_0, mixed_e, bq_e, x_void hC hB hY hg, bx_0, mixed_e, bq_e]
/-- all thermometers, from one on -/
noncomputable def hg (S : Int → Int) : Nat → Nat → Int64 → Int64
  | 0, _, h => h
  | n + 1, i, h => hg S n (i + 1) (dgG S i h)
theorem cd31 (hC : CS o 0 S) (hB : SB S Y) (hY : Y ≤ 1000000) (kk : OM → Int64 → Option ((Nat × Int64) × OM)) : ∀ (n fuel i : Nat) (h : Int64), n < fuel → i + n = gm S → LX5_digest_31 kk fuel o h (I (i : Int)) = kk o (hg S n i h) := by
  have hm := hB.m
  have c3 := hC.2.2.1
  rw [hm.1] at c3
  intro n
  induction n with
  | zero =>
    intro fuel i h h1 h2
    obtain ⟨f, rfl⟩ : ∃ f, fuel = f + 1 := ⟨fuel - 1, by omega⟩
    rw [LX5_digest_31.eq_2]
    dsimp only
    rw [c3, if_pos (by rw [I_le (by omega) (by omega) (by omega) (by omega)]; omega)]
    rfl
  | succ n ih =>
    intro fuel i h h1 h2
    obtain ⟨f, rfl⟩ : ∃ f, fuel = f + 1 := ⟨fuel - 1, by omega⟩
    rw [LX5_digest_31.eq_2]
    dsimp only
    rw [c3, show (1 : Int32) = I 1 from rfl, if_neg (by rw [I_le (by omega) (by omega) (by omega) (by omega)]; omega), cnumbers_e hC hB hY (g := i) (by omega), bx_0, creadings_e hC hB (g := i) (by omega), bx_0, coutlook_e hC hB hY (g := i) (by omega), bx_0, I_add, bd_e]
    exact ih f (i + 1) _ (by omega) (by omega)
theorem cd6 (hC : CS o 0 S) (hB : SB S Y) (hY : Y ≤ 1000000) {m : Nat} (hm : rd o 14 0 0 = I (m : Int)) (kk : OM → Int64 → Option ((Nat × Int64) × OM)) : ∀ (n fuel i : Nat) (h : Int64), n < fuel → i + n = 18 → LX5_digest_6 kk fuel o h (I (i : Int)) = kk o (hs (fun w => cts S m (w : Int)) n i h) := by
  intro n
  induction n with
  | zero =>
    intro fuel i h h1 h2
    obtain ⟨f, rfl⟩ : ∃ f, fuel = f + 1 := ⟨fuel - 1, by omega⟩
    rw [LX5_digest_6.eq_2]
    dsimp only
    rw [show (17 : Int32) = I 17 from rfl, if_pos (by rw [I_lt (by omega) (by omega) (by omega) (by omega)]; omega)]
    rfl
  | succ n ih =>
    intro fuel i h h1 h2
    obtain ⟨f, rfl⟩ : ∃ f, fuel = f + 1 := ⟨fuel - 1, by omega⟩
    rw [LX5_digest_6.eq_2]
    dsimp only
    rw [show (17 : Int32) = I 17 from rfl, show (1 : Int32) = I 1 from rfl, if_neg (by rw [I_lt (by omega) (by omega) (by omega) (by omega)]; omega), x_count hC hB hY hm (by omega) (by omega), bx_0, mixed_e, bq_e, I_add, bd_e]
    exact ih f (i + 1) _ (by omega) (by omega)
theorem cd118 {L : Nat} {B : Nat → Int} (hW : WC o L B) (hL : L ≤ 60) (kk : Int64 → Option ((Nat × Int64) × OM)) : ∀ (n fuel i : Nat) (h : Int64), n < fuel → i + n = L → LX5_digest_118 kk o fuel h (I (i : Int)) = kk (hs B n i h) := by
  intro n
  induction n with
  | zero =>
    intro fuel i h h1 h2
    obtain ⟨f, rfl⟩ : ∃ f, fuel = f + 1 := ⟨fuel - 1, by omega⟩
    rw [LX5_digest_118.eq_2]
    dsimp only
    rw [hW.1, if_pos (by rw [I_le (by omega) (by omega) (by omega) (by omega)]; omega)]
    rfl
  | succ n ih =>
    intro fuel i h h1 h2
    obtain ⟨f, rfl⟩ : ∃ f, fuel = f + 1 := ⟨fuel - 1, by omega⟩
    rw [LX5_digest_118.eq_2]
    dsimp only
    rw [hW.1, show (1 : Int32) = I 1 from rfl, if_neg (by rw [I_le (by omega) (by omega) (by omega) (by omega)]; omega), I_inB (a := (i : Int)) (by omega) (by omega) (by omega), grd_e, I_tcN (by omega), hW.2 i (by omega), mixed_e, bq_e, I_add, bd_e]
    exact ih f (i + 1) _ (by omega) (by omega)
noncomputable def dgs (S : Int → Int) (m L : Nat) (B : Nat → Int) : Int64 :=
  hs B L 0 (mx1 (mx1 (mx1 (mx1 (hg S (gm S) 0 (hs (fun w => cts S m (w : Int)) 18 0 3907)) (v6 (S 242))) (v6 (S 243))) (bts (gm S) (shn S))) (v6 (L : Int)))
theorem cdigest_e (hR : RP o S q) (hb : RB S q Y) (hY : Y ≤ 700000) : F_X5_digest o = some ((0, dgs S q.1.1 q.2.2.1 q.2.2.2), o) := by
  have hB := hb.1
  have hL := hb.2.2.2.2.2.1
  obtain ⟨l1, l2⟩ := hb.2.2.2.2.2.2.2.1
  obtain ⟨hC, h2, ⟨b, h3⟩, h4, h5, h6⟩ := hR
  have y0 := x_stopped hC (w := 0) (Or.inl rfl)
  have y1 := x_stopped hC (w := 1) (Or.inr rfl)
  rw [show (244 : Int) + 0 = 244 from rfl, l1] at y0
  rw [show (244 : Int) + 1 = 245 from rfl, l2] at y1
  have hm := hB.m
  have hFU : 100 < FU := by unfold FU; omega
  unfold F_X5_digest dgs
  generalize FU = F at hFU ⊢
  rw [show (0 : Int32) = I ((0 : Nat) : Int) from rfl, show (1 : Int32) = I 1 from rfl, bd_e, cd6 hC hB (by omega) h3.2.2.1 _ 18 F 0 _ (by omega) (by omega), bd_e, cd31 hC hB (by omega) _ (gm S) F 0 _ (by omega) (by omega)]
  rw [show I ((0 : Nat) : Int) = I 0 from rfl, y0, bx_0, mixed_e, bq_e, y1, bx_0, mixed_e, bq_e, cshare_e hC hB (by omega), bq_e, cbits_e o hB, bq_e, h6.1]
  have em : ∀ a b, F_X5_mixed o a b = some (mx1 a b) := fun _ _ => rfl
  rw [em, bq_e, em, bq_e, bd_e]
  exact cd118 h6 hL _ q.2.2.1 F 0 _ (by omega) (by omega)
end
