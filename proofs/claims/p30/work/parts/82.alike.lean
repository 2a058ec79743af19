/-! two objects that hold one row are alike -/
def A2 (w : OM2) (S : Int → Int) (q q' : Qt) : Prop := RP w.1 S q ∧ RP w.2 S q'
theorem RP.sy {o p : OM} {S : Int → Int} {q : Qt} (h : RP p S q) : RP (sy o p) S q := h.fr (fun k i hk _ => by
  show (if k = 24 then o.1 k i else p.1 k i) = p.1 k i
  rw [if_neg (by omega)]) rfl
theorem A2.s1 {w : OM2} {S : Int → Int} {q q' : Qt} (h : A2 w S q q') : A2 (w.1, sy w.1 w.2) S q q' := ⟨h.1, h.2.sy⟩
theorem A2.s2 {w : OM2} {S : Int → Int} {q q' : Qt} (h : A2 w S q q') : A2 (sy w.2 w.1, w.2) S q q' := ⟨h.1.sy, h.2⟩
theorem look1 {γ : Type} {w : OM2} {x : Option ((Nat × Int32) × OM)} {v : Int32} (e : x = some ((0, v), w.1)) (K : Int32 → OM2 → Option γ) : b0 (on1 x w) K = K v (w.1, sy w.1 w.2) := by
  rw [e]
  rfl
theorem look2 {γ : Type} {w : OM2} {x : Option ((Nat × Int32) × OM)} {v : Int32} (e : x = some ((0, v), w.2)) (K : Int32 → OM2 → Option γ) : b0 (on2 x w) K = K v (sy w.2 w.1, w.2) := by
  rw [e]
  rfl
theorem dv_e {a b : Int} (h1 : 0 ≤ a) (h2 : a < 2147483648) (h3 : 0 < b) (h4 : b < 2147483648) : I a / I b = I (a / b) := by
  rw [I_div (by omega) h2 h3 h4, Int.tdiv_eq_ediv_of_nonneg h1]
theorem md_e {a b : Int} (h1 : 0 ≤ a) (h2 : a < 2147483648) (h3 : 0 < b) (h4 : b < 2147483648) : I a - I a / I b * I b = I (a % b) := by
  rw [dv_e h1 h2 h3 h4, I_mul, I_sub]
  congr 1
  have := Int.emod_add_mul_ediv a b
  rw [Int.mul_comm (a / b) b]
  omega
theorem nz9 : decide (¬ ((9 : Int32)) = 0) = true := by decide
theorem nz40 : decide (¬ ((40 : Int32)) = 0) = true := by decide
theorem nz4 : decide (¬ ((4 : Int32)) = 0) = true := by decide
theorem nz10 : decide (¬ ((10 : Int32)) = 0) = true := by decide
theorem cts_c (S : Int → Int) (m m' : Nat) {w : Int} (h : w < 17) : cts S m w = cts S m' w := by
  unfold cts
  split
  · rfl
  · split
    · rfl
    · split
      · rfl
      · split
        · rfl
        · rw [if_neg (show ¬ w = 17 by omega), if_neg (show ¬ w = 17 by omega)]
section
variable {S : Int → Int} {Y : Nat} {q q' : Qt}
theorem x_cnt {o : OM} {q : Qt} (hP : RP o S q) (hB : SB S Y) (hY : Y ≤ 1000000) {w : Int} (h1 : 0 ≤ w) (h2 : w ≤ 17) : F_X5_count o (I w) = some ((0, I (cts S q.1.1 w)), o) := by
  obtain ⟨b, h3⟩ := hP.2.2.1
  exact x_count hP.1 hB hY h3.2.2.1 h1 h2
theorem cts_1 (hB : SB S Y) (m : Nat) : cts S m 1 = (gm S : Int) := by
  unfold cts
  rw [if_neg (by omega), if_pos rfl]
  exact hB.m.1
theorem alike_1 (hB : SB S Y) (hY : Y ≤ 1000000) (kk : OM2 → Int32 → Option (Int32 × OM2)) : ∀ (fuel i : Nat) (w : OM2), 17 < i + fuel → i ≤ 17 → A2 w S q q' → ∃ w', A2 w' S q q' ∧ LL_areAlike_21 kk fuel w (I 1) (I (i : Int)) = kk w' (I 1) := by
  intro fuel
  induction fuel with
  | zero => intro i w h1 h2; omega
  | succ fuel ih =>
    intro i w h1 h2 hA
    rw [LL_areAlike_21.eq_2]
    dsimp only
    rw [show (17 : Int32) = I 17 from rfl, show (1 : Int32) = I 1 from rfl]
    by_cases c : i = 17
    · rw [if_pos (by rw [I_le (by omega) (by omega) (by omega) (by omega)]; omega)]
      exact ⟨w, hA, rfl⟩
    · rw [if_neg (by rw [I_le (by omega) (by omega) (by omega) (by omega)]; omega), bd_e, bd_e, if_neg (by decide)]
      rw [look1 (x_cnt hA.1 hB hY (w := (i : Int)) (by omega) (by omega))]
      have hA1 := hA.s1
      rw [look2 (w := (w.1, sy w.1 w.2)) (x_cnt hA1.2 hB hY (w := (i : Int)) (by omega) (by omega))]
      have hA2 := hA1.s2
      rw [if_pos (by rw [cts_c S q.1.1 q'.1.1 (by omega)])]
      dsimp only
      rw [bd_e, I_add]
      exact ih (i + 1) _ (by omega) (by omega) hA2
theorem alike_2 (hB : SB S Y) (hY : Y ≤ 1000000) (kk : OM2 → Int32 → Option (Int32 × OM2)) : ∀ (fuel i : Nat) (w : OM2), 9 * gm S < i + fuel → i ≤ 9 * gm S → A2 w S q q' → ∃ w', A2 w' S q q' ∧ LL_areAlike_58 kk fuel w (I 1) (I (i : Int)) = kk w' (I 1) := by
  have hm := hB.m
  intro fuel
  induction fuel with
  | zero => intro i w h1 h2; omega
  | succ fuel ih =>
    intro i w h1 h2 hA
    rw [LL_areAlike_58.eq_2]
    dsimp only
    rw [show (1 : Int32) = I 1 from rfl]
    have n := x_cnt hA.1 hB hY (w := 1) (by omega) (by omega)
    rw [cts_1 hB] at n
    rw [look1 n]
    have hA1 := hA.s1
    generalize (w.1, sy w.1 w.2) = w1 at hA1 ⊢
    have h9 : (9 : Int32) = I 9 := rfl
    by_cases c : i = 9 * gm S
    · rw [if_pos (by rw [h9, I_mul, I_le (by omega) (by omega) (by omega) (by omega)]; omega)]
      exact ⟨w1, hA1, rfl⟩
    · obtain ⟨g, hg⟩ : ∃ g : Nat, (i : Int) / 9 = (g : Int) := ⟨i / 9, by omega⟩
      have t1 := x_thermo hA1.1.1 hB hY (g := g) (by omega) (w := (i : Int) % 9) (by omega) (by omega)
      rw [if_neg (by rw [h9, I_mul, I_le (by omega) (by omega) (by omega) (by omega)]; omega), bd_e, bd_e, if_neg (by decide), nz9, grd_e, grd_e, h9, md_e (a := (i : Int)) (by omega) (by omega) (by omega) (by omega), dv_e (a := (i : Int)) (by omega) (by omega) (by omega) (by omega), hg]
      rw [look1 t1]
      have hA2 := hA1.s1
      generalize (w1.1, sy w1.1 w1.2) = w2 at hA2 ⊢
      have t2 := x_thermo hA2.2.1 hB hY (g := g) (by omega) (w := (i : Int) % 9) (by omega) (by omega)
      rw [grd_e, grd_e, look2 t2]
      have hA3 := hA2.s2
      generalize (sy w2.2 w2.1, w2.2) = w3 at hA3 ⊢
      rw [if_pos rfl]
      dsimp only
      rw [bd_e, I_add]
      exact ih (i + 1) _ (by omega) (by omega) hA3
theorem alike_3 (hB : SB S Y) (hY : Y ≤ 1000000) (kk : OM2 → Int32 → Option (Int32 × OM2)) : ∀ (fuel i : Nat) (w : OM2), 40 * gm S < i + fuel → i ≤ 40 * gm S → A2 w S q q' → ∃ w', A2 w' S q q' ∧ LL_areAlike_115 kk fuel w (I 1) (I (i : Int)) = kk w' (I 1) := by
  have hm := hB.m
  intro fuel
  induction fuel with
  | zero => intro i w h1 h2; omega
  | succ fuel ih =>
    intro i w h1 h2 hA
    rw [LL_areAlike_115.eq_2]
    dsimp only
    rw [show (1 : Int32) = I 1 from rfl]
    have n := x_cnt hA.1 hB hY (w := 1) (by omega) (by omega)
    rw [cts_1 hB] at n
    rw [look1 n]
    have hA1 := hA.s1
    generalize (w.1, sy w.1 w.2) = w1 at hA1 ⊢
    have h40 : (40 : Int32) = I 40 := rfl
    have h4 : (4 : Int32) = I 4 := rfl
    have h10 : (10 : Int32) = I 10 := rfl
    by_cases c : i = 40 * gm S
    · rw [if_pos (by rw [h40, I_mul, I_le (by omega) (by omega) (by omega) (by omega)]; omega)]
      exact ⟨w1, hA1, rfl⟩
    · obtain ⟨g, hg⟩ : ∃ g : Nat, (i : Int) / 40 = (g : Int) := ⟨i / 40, by omega⟩
      have t1 := x_point hA1.1.1 hB (g := g) (by omega) (p := (i : Int) / 4 % 10) (by omega) (by omega) (w := (i : Int) % 4) (by omega) (by omega)
      rw [if_neg (by rw [h40, I_mul, I_le (by omega) (by omega) (by omega) (by omega)]; omega), bd_e, bd_e, if_neg (by decide), nz40, nz4, nz10, grd_e, grd_e, grd_e, grd_e, h40, h4, h10, md_e (a := (i : Int)) (by omega) (by omega) (by omega) (by omega), dv_e (a := (i : Int)) (b := 4) (by omega) (by omega) (by omega) (by omega), dv_e (a := (i : Int)) (b := 40) (by omega) (by omega) (by omega) (by omega), md_e (a := (i : Int) / 4) (by omega) (by omega) (by omega) (by omega), hg]
      rw [look1 t1]
      have hA2 := hA1.s1
      generalize (w1.1, sy w1.1 w1.2) = w2 at hA2 ⊢
      have t2 := x_point hA2.2.1 hB (g := g) (by omega) (p := (i : Int) / 4 % 10) (by omega) (by omega) (w := (i : Int) % 4) (by omega) (by omega)
      rw [grd_e, grd_e, grd_e, grd_e, look2 t2]
      have hA3 := hA2.s2
      generalize (sy w2.2 w2.1, w2.2) = w3 at hA3 ⊢
      rw [if_pos rfl]
      dsimp only
      rw [bd_e, I_add]
      exact ih (i + 1) _ (by omega) (by omega) hA3
theorem alk_1 (hB : SB S Y) (hY : Y ≤ 1000000) {kk : OM2 → Int32 → Option (Int32 × OM2)} {F : Nat} (hF : 300 < F) {w : OM2} (hA : A2 w S q q') (h : ∀ w', A2 w' S q q' → ∃ w2, A2 w2 S q q' ∧ kk w' (I 1) = some (I 1, w2)) : ∃ w2, A2 w2 S q q' ∧ LL_areAlike_21 kk F w (I 1) (I 0) = some (I 1, w2) := by
  obtain ⟨w1, a1, e1⟩ := alike_1 hB hY kk F 0 w (by omega) (by omega) hA
  obtain ⟨w2, a2, e2⟩ := h w1 a1
  exact ⟨w2, a2, e1.trans e2⟩
theorem alk_2 (hB : SB S Y) (hY : Y ≤ 1000000) {kk : OM2 → Int32 → Option (Int32 × OM2)} {F : Nat} (hF : 300 < F) {w : OM2} (hA : A2 w S q q') (h : ∀ w', A2 w' S q q' → ∃ w2, A2 w2 S q q' ∧ kk w' (I 1) = some (I 1, w2)) : ∃ w2, A2 w2 S q q' ∧ LL_areAlike_58 kk F w (I 1) (I 0) = some (I 1, w2) := by
  have hm := hB.m
  obtain ⟨w1, a1, e1⟩ := alike_2 hB hY kk F 0 w (by omega) (by omega) hA
  obtain ⟨w2, a2, e2⟩ := h w1 a1
  exact ⟨w2, a2, e1.trans e2⟩
theorem alk_3 (hB : SB S Y) (hY : Y ≤ 1000000) {kk : OM2 → Int32 → Option (Int32 × OM2)} {F : Nat} (hF : 300 < F) {w : OM2} (hA : A2 w S q q') (h : ∀ w', A2 w' S q q' → ∃ w2, A2 w2 S q q' ∧ kk w' (I 1) = some (I 1, w2)) : ∃ w2, A2 w2 S q q' ∧ LL_areAlike_115 kk F w (I 1) (I 0) = some (I 1, w2) := by
  have hm := hB.m
  obtain ⟨w1, a1, e1⟩ := alike_3 hB hY kk F 0 w (by omega) (by omega) hA
  obtain ⟨w2, a2, e2⟩ := h w1 a1
  exact ⟨w2, a2, e1.trans e2⟩
theorem alike_e (hB : SB S Y) (hY : Y ≤ 1000000) {w : OM2} (hA : A2 w S q q') : ∃ w', A2 w' S q q' ∧ F_L_areAlike w = some (I 1, w') := by
  have hFU : 300 < FU := by unfold FU; omega
  unfold F_L_areAlike
  generalize FU = F at hFU ⊢
  rw [show (0 : Int32) = I 0 from rfl, show (1 : Int32) = I 1 from rfl]
  rw [look1 (x_stopped hA.1.1 (Or.inl rfl))]
  have hA1 := hA.s1
  generalize (w.1, sy w.1 w.2) = w1 at hA1 ⊢
  rw [look2 (x_stopped hA1.2.1 (Or.inl rfl))]
  have hA2 := hA1.s2
  generalize (sy w1.2 w1.1, w1.2) = w2 at hA2 ⊢
  rw [bd_e, if_pos rfl]
  (try dsimp only)
  rw [bd_e]
  refine alk_1 hB hY hFU hA2 (fun w3 a3 => ?_)
  (try dsimp only)
  rw [bd_e]
  refine alk_2 hB hY hFU a3 (fun w4 a4 => ?_)
  (try dsimp only)
  rw [bd_e]
  refine alk_3 hB hY hFU a4 (fun w5 a5 => ?_)
  (try dsimp only)
  rw [isZ1, grd_e]
  exact ⟨w5, a5, rfl⟩
end
