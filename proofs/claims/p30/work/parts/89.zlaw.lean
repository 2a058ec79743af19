/-! the law's loop -/
section
variable {S : Int → Int} {Y : Nat} {q : Qt}
/-- undo just behind a change: the row and what is saved keep their bounds -/
theorem c_back2 {o : OM} {T : Int → Int} (hq : RB S q Y) {Z : Nat} (h : RP o T (pushQ q S)) (hb : RB T (pushQ q S) Z) : ∃ o1 q1, F_X5_undo o = some ((0, I ((if q.1.1 = 6 then 5 else q.1.1 : Nat) : Int)), o1) ∧ RP o1 S q1 ∧ RB S q1 Y := by
  obtain ⟨⟨m, V⟩, qk, qb⟩ := q
  obtain ⟨B1, B2, B3, B4, B5, B6, B7, B8, B9, B10⟩ := hq
  unfold pushQ at h hb
  dsimp only at h hb B2 B3 B9 ⊢
  by_cases c : m = 6
  · rw [if_pos c] at h hb ⊢
    obtain ⟨o1, e1, g1, r1, b1⟩ := c_undo (M := 5) h hb
    rw [if_pos rfl] at r1
    refine ⟨o1, _, e1, r1, B1, fun i hi => ?_, by show 5 ≤ 6; omega, B4, B5, B6, B7, B8, fun i hi => ?_, B10⟩
    · have hi : i < 5 := hi
      show SB (if i = 5 then S else V (i + 1)) Y
      rw [if_neg (by omega)]
      exact B2 (i + 1) (by omega)
    · have hi : i < 5 := hi
      show LK (if i = 5 then S else V (i + 1))
      rw [if_neg (by omega)]
      exact B9 (i + 1) (by show i + 1 < m; omega)
  · rw [if_neg c] at h hb ⊢
    obtain ⟨o1, e1, g1, r1, b1⟩ := c_undo (M := m) h hb
    rw [if_pos rfl] at r1
    refine ⟨o1, _, e1, r1, B1, fun i hi => ?_, B3, B4, B5, B6, B7, B8, fun i hi => ?_, B10⟩
    · have hi : i < m := hi
      show SB (if i = m then S else V i) Y
      rw [if_neg (by omega)]
      exact B2 i hi
    · have hi : i < m := hi
      show LK (if i = m then S else V i)
      rw [if_neg (by omega)]
      exact B9 i hi
theorem run1 {α γ : Type} {w : OM2} {x : Option (α × OM)} {v : α} {o1 : OM} (e : x = some (v, o1)) (K : α → OM2 → Option γ) : bn (on1 x w) K = K v (o1, sy o1 w.2) := by
  rw [e]
  rfl
theorem run2 {α γ : Type} {w : OM2} {x : Option (α × OM)} {v : α} {o1 : OM} (e : x = some (v, o1)) (K : α → OM2 → Option γ) : bn (on2 x w) K = K v (sy o1 w.1, o1) := by
  rw [e]
  rfl
theorem runb1 {γ : Type} {w : OM2} {x : Option ((Nat × Int32) × OM)} {v : Int32} {o1 : OM} (e : x = some ((0, v), o1)) (K : Int32 → OM2 → Option γ) : b0 (on1 x w) K = K v (o1, sy o1 w.2) := by
  rw [e]
  rfl
theorem cell_e (xs : Nat → Int32) {L e : Nat} (hL : L ≤ 260) (he : e < 56) : ∃ c, F_L_cell xs L (I (e : Int)) = some c := by
  unfold F_L_cell
  have eL : Int32.ofNat L = I (L : Int) := I_nI L
  rw [eL]
  by_cases c : L ≤ e
  · rw [if_pos (by rw [I_le (by omega) (by omega) (by omega) (by omega)]; omega)]
    exact ⟨_, rfl⟩
  · rw [if_neg (by rw [I_le (by omega) (by omega) (by omega) (by omega)]; omega), I_inB (by omega) (by omega) (by omega), grd_e]
    exact ⟨_, rfl⟩
theorem nxT_0 (q : Qt) (S : Int → Int) : nxT q S (I 0) = pushQ q S := if_pos rfl
theorem nxT_n (q : Qt) (S : Int → Int) {t : Int32} (h : ¬ t = I 0) : nxT q S t = q := if_neg h
theorem cts_17 (S : Int → Int) (m : Nat) : cts S m 17 = (m : Int) := rfl
end
theorem law_loop (xs : Nat → Int32) (L : Nat) (hL : L ≤ 260) : ∀ (fuel e Y : Nat) (S : Int → Int) (q q' : Qt) (w : OM2), 56 < e + fuel → e ≤ 56 → Y + 10000 * (56 - e) ≤ 680000 → A2 w S q q' → RB S q Y → RB S q' Y → INV S → LL_law_23 xs L fuel w (I (e : Int)) = some 1 := by
  intro fuel
  induction fuel with
  | zero => intro e Y S q q' w h1 h2; omega
  | succ fuel ih =>
    intro e Y S q q' w h1 h2 hY hA hb hb' hI
    rw [LL_law_23.eq_2]
    try dsimp only
    have nx : ∀ (S' : Int → Int) (q1 q2 : Qt) (w1 : OM2), e < 56 → A2 w1 S' q1 q2 → RB S' q1 (Y + 10000) → RB S' q2 (Y + 10000) → INV S' → LL_law_23 xs L fuel w1 (I (((e + 1 : Nat)) : Int)) = some 1 := fun S' q1 q2 w1 he hA1 r1 r2 i1 => ih (e + 1) (Y + 10000) S' q1 q2 w1 (by omega) (by omega) (by omega) hA1 r1 r2 i1
    clear ih
    rw [show (-1 : Int32) = I (-1) from rfl, show (56 : Int32) = I 56 from rfl, show (17 : Int32) = I 17 from rfl, show (0 : Int32) = I 0 from rfl, show (1 : Int32) = I 1 from rfl, show (2 : Int32) = I 2 from rfl, show (3 : Int32) = I 3 from rfl, show (5 : Int32) = I 5 from rfl]
    by_cases c : e = 56
    · rw [if_pos (by rw [I_le (by omega) (by omega) (by omega) (by omega)]; omega), run1 (sums_e hA.1 hb.1 hI (by omega))]
    · have he : e < 56 := by omega
      have nx := fun S' q1 q2 w1 => nx S' q1 q2 w1 he
      rw [if_neg (by rw [I_le (by omega) (by omega) (by omega) (by omega)]; omega)]
      refine bd_k (fun k54 => ∀ v, k54 v = some (I 1)) (fun v => ?_) (fun k54 hk => ?_)
      · try dsimp only
        have had := x_cnt hA.1 hb.1 (by omega) (w := 17) (by omega) (by omega)
        rw [cts_17] at had
        rw [look1 had]
        have hA1 := hA.s1
        generalize (w.1, sy w.1 w.2) = w1 at hA1 ⊢
        obtain ⟨t, r, S', hI', hS', act⟩ := al_A hb.1 (by omega) hI v
        obtain ⟨o1, e1, r1, b1, z1⟩ := act w1.1 q hA1.1 hb
        rw [run1 e1, bd_e]
        have hA2 : A2 (o1, sy o1 w1.2) S' (nxT q S t) q' ∨ True := Or.inr trivial
        have hp2 : RP (sy o1 w1.2) S q' := hA1.2.sy
        refine bd_k (fun k104 => ∀ (w : OM2), RP w.1 S' (nxT q S t) → RP w.2 S q' → k104 w = some (I 1)) (fun w hw1 hw2 => ?_) (fun k104 hk => ?_)
        · try dsimp only
          refine bd_k (fun k171 => ∀ (w : OM2) (q1 : Qt), RP w.1 S' q1 → RB S' q1 (Y + 1200) → RP w.2 S q' → k171 w = some (I 1)) (fun w q1 hw1 hr1 hw2 => ?_) (fun k171 hk => ?_)
          · try dsimp only
            obtain ⟨o2, e2, r2, b2, z2⟩ := act w.2 q' hw2 hb'
            rw [run2 e2]
            refine bd_k (fun _ => True) trivial (fun k219 _ => ?_)
            rw [if_pos rfl]
            have hA3 : A2 (sy o2 w.1, o2) S' q1 (nxT q' S t) := ⟨hw1.sy, r2⟩
            have out3 : t = I 0 → rd (sy o2 w.1, o2).1 24 0 0 = rd (o1, sy o1 w1.2).1 24 0 0 := fun ht => by
              have g1 := z1 ht
              have g2 := z2 ht
              show (sy o2 w.1).1 24 0 0 = rd o1 24 0 0
              rw [g1, ← g2]
              rfl
            generalize (sy o2 w.1, o2) = w3 at hA3 out3 ⊢
            refine bd_k (fun k196 => k196 () = some (I 1)) ?_ (fun k196 hk => ?_)
            · try dsimp only
              obtain ⟨w4, hA4, e4⟩ := alike_e hr1.1 (by omega) hA3
              have n3 : decide (¬ I 3 = I 0) = true := by decide
              rw [e4, bn_e, if_neg (show ¬ I 1 = I 0 by decide), n3, grd_e, md_e (a := (e : Int)) (by omega) (by omega) (by omega) (by omega)]
              refine bd_k (fun k221 => ∀ (w : OM2), A2 w S' q1 (nxT q' S t) → k221 w = some (I 1)) (fun w hA5 => ?_) (fun k221 hk => ?_)
              · try dsimp only
                have cn := x_cnt hA5.1 hr1.1 (by omega) (w := 1) (by omega) (by omega)
                rw [cts_1 hr1.1] at cn
                rw [look1 cn]
                have hA6 := hA5.s1
                generalize (w.1, sy w.1 w.2) = w6 at hA6 ⊢
                have hm := hr1.1.m
                refine bd_k (fun k246 => ∀ (w : OM2) (h : Int), A2 w S' q1 (nxT q' S t) → (h = -1 ∨ ∃ g : Nat, g < gm S' ∧ h = (g : Int)) → k246 w (I h) = some (I 1)) (fun w h hA7 hh => ?_) (fun k246 hk => ?_)
                · try dsimp only
                  rw [grd_e]
                  refine bd_k (fun k304 => ∀ (w : OM2) (q2 : Qt), A2 w S' q2 (nxT q' S t) → RB S' q2 (Y + 10000) → k304 w = some (I 1)) (fun w q2 hA8 hr8 => ?_) (fun k304 hk => ?_)
                  · try dsimp only
                    rw [bd_e, I_add]
                    exact nx S' q2 _ w hA8 hr8 (b2.mono (by omega)) hI'
                  · by_cases c3 : I ((e : Int) % 3) = I 2
                    · rw [if_pos c3]
                      rcases hh with rfl | ⟨g, hg, rfl⟩
                      · rw [if_pos (by decide)]
                        exact hk w q1 hA7 (hr1.mono (by omega))
                      · rw [if_neg (by rw [I_lt (by omega) (by omega) (by omega) (by omega)]; omega), run1 (points_e hA7.1 hr1.1 hI' (by omega) hg)]
                        refine bd_k (fun _ => True) trivial (fun k302 _ => ?_)
                        have hA8 := hA7.s1
                        generalize (w.1, sy w.1 w.2) = w8 at hA8 ⊢
                        rw [if_neg (show ¬ I 1 = I 0 by decide), run1 (readings_e hA8.1 hr1.1 hI' (by omega) hg _)]
                        have hA9 := hA8.s1
                        generalize (w8.1, sy w8.1 w8.2) = w9 at hA9 ⊢
                        obtain ⟨oA, qA, eA, rA', bA⟩ := papers_e hA9.1 hr1 hI' (by omega) hg
                        rw [if_neg (show ¬ I 1 = I 0 by decide), run1 eA]
                        have hAA : A2 (oA, sy oA w9.2) S' qA (nxT q' S t) := ⟨rA', hA9.2.sy⟩
                        generalize (oA, sy oA w9.2) = wA at hAA ⊢
                        obtain ⟨wB, hAB, eB⟩ := alike_e hr1.1 (by omega) hAA
                        rw [if_neg (show ¬ I 1 = I 0 by decide), eB, bn_e, if_neg (show ¬ I 1 = I 0 by decide)]
                        exact hk wB qA hAB (bA.mono (by omega))
                    · rw [if_neg c3]
                      exact hk w q1 hA7 (hr1.mono (by omega))
                · by_cases c0 : gm S' = 0
                  · rw [if_pos (by rw [c0]; rfl)]
                    exact hk w6 (-1) hA6 (Or.inl rfl)
                  · have nzg : ¬ I (gm S' : Int) = (0 : Int32) := by
                      rw [show (0 : Int32) = I 0 from rfl, I_eq (by omega) (by omega) (by omega) (by omega)]
                      omega
                    rw [if_neg (show ¬ I (gm S' : Int) = I 0 from nzg)]
                    have cn6 := x_cnt hA6.1 hr1.1 (by omega) (w := 1) (by omega) (by omega)
                    rw [cts_1 hr1.1] at cn6
                    rw [look1 cn6]
                    have hA7 := hA6.s1
                    generalize (w6.1, sy w6.1 w6.2) = w7 at hA7 ⊢
                    obtain ⟨h, l1, l2, l3⟩ := lw_rg (v >>> (6 &&& 31)) (m := (gm S' : Int)) (by omega) (by omega)
                    rw [low_e _ _ nzg, l3, bq_e]
                    exact hk w7 h hA7 (Or.inr ⟨h.toNat, by omega, by omega⟩)
              · by_cases c3 : I ((e : Int) % 3) = I 2
                · rw [if_pos c3, run1 (sums_e hA4.1 hr1.1 hI' (by omega)), if_neg (show ¬ I 1 = I 0 by decide)]
                  exact hk _ hA4.s1
                · rw [if_neg c3]
                  exact hk _ hA4
            · by_cases ht : t = I 0
              · rw [if_pos ht, if_pos (out3 ht)]
                exact hk
              · rw [if_neg ht]
                exact hk
          · by_cases ht : t = I 0
            · rw [if_pos ht]
              subst ht
              rw [nxT_0] at hw1 b1
              by_cases cb : ((v >>> (((9 : Int32)) &&& 31)) &&& I 1) = I 0
              · rw [if_pos cb]
                obtain ⟨o5, q5, e5, r5, b5⟩ := c_back2 hb hw1 b1
                rw [runb1 e5]
                have hA5 : A2 (o5, sy o5 w.2) S q5 q' := ⟨r5, hw2.sy⟩
                generalize (o5, sy o5 w.2) = w5 at hA5 ⊢
                refine bd_k (fun k140 => k140 (I ((if q.1.1 = 6 then 5 else q.1.1 : Nat) : Int)) = some (I 1)) ?_ (fun k140 hk2 => ?_)
                · try dsimp only
                  refine bd_k (fun _ => True) trivial (fun k169 _ => ?_)
                  obtain ⟨w6, hA6, e6⟩ := alike_e hb.1 (by omega) hA5
                  obtain ⟨o7, e7, r7, b7, z7⟩ := act w6.1 q5 hA6.1 b5
                  rw [if_pos rfl, e6, bn_e, if_neg (show ¬ I 1 = I 0 by decide), run1 e7, if_pos rfl, if_pos (by
                    show rd o7 24 0 0 = rd o1 24 0 0
                    rw [z7 rfl, z1 rfl])]
                  exact hk (o7, sy o7 w6.2) _ r7 b7 hA6.2.sy
                · have h6 := hb.2.2.1
                  by_cases c6 : q.1.1 = 6
                  · rw [if_pos c6] at hk2
                    rw [if_pos (by rw [c6]; rfl)]
                    exact hk2
                  · rw [if_neg c6] at hk2
                    rw [if_neg (by rw [show (6 : Int32) = I 6 from rfl, I_eq (by omega) (by omega) (by omega) (by omega)]; omega)]
                    exact hk2
              · rw [if_neg cb]
                exact hk w _ hw1 b1 hw2
            · rw [if_neg ht]
              exact hk w _ hw1 b1 hw2
        · by_cases ht : t = I 0
          · rw [if_pos ht]
            exact hk _ r1 hp2
          · rw [if_neg ht]
            have es := hS' ht
            have en := nxT_n q S ht
            have hA3 : A2 (o1, sy o1 w1.2) S q q' := by
              rw [en, es] at r1
              exact ⟨r1, hp2⟩
            generalize (o1, sy o1 w1.2) = w3 at hA3 ⊢
            obtain ⟨w4, hA4, e4⟩ := alike_e hb.1 (by omega) hA3
            rw [e4, bn_e]
            refine bd_k (fun _ => True) trivial (fun k102 _ => ?_)
            have had4 := x_cnt hA4.1 hb.1 (by omega) (w := 17) (by omega) (by omega)
            rw [cts_17] at had4
            rw [if_neg (show ¬ I 1 = I 0 by decide), look1 had4, if_pos rfl]
            have hA5 := hA4.s1
            refine hk _ ?_ hA5.2
            rw [en, es]
            exact hA5.1
      · obtain ⟨cc, ec⟩ := cell_e xs hL he
        by_cases c2 : I 2 ≤ I (e : Int)
        · rw [if_pos c2, ec, bq_e]
          exact hk _
        · rw [if_neg c2, ec, bq_e]
          exact hk _
def S0 : Int → Int := fun a => if a = 230 then 1000 else if a = 231 then 370 else if a = 232 then -100 else if a = 235 then 12 else if a = 236 then 6 else if a = 237 then 20 else if a = 239 then 2 else if a = 240 then 4 else if a = 241 then 10 else if a = 242 ∨ a = 243 ∨ a = 244 ∨ a = 245 then -1 else 0
def q0 : Qt := ((0, fun _ => S0), (0, S0), (0, fun _ => 0))
theorem start_b : ∀ n : Nat, n < 4 → fFB n = I (S0 (229 + (n : Int))) := by decide +kernel
theorem start_s : ∀ n : Nat, n < 7 → fFS n = I (S0 (235 + (n : Int))) := by decide +kernel
theorem start_bb : ∀ n : Nat, n < 4 → -400 ≤ S0 (229 + (n : Int)) ∧ S0 (229 + (n : Int)) ≤ 1500 := by decide +kernel
theorem start_sb : ∀ n : Nat, n < 7 → 0 ≤ S0 (235 + (n : Int)) ∧ S0 (235 + (n : Int)) ≤ lim (n : Int) := by decide +kernel
theorem start_P : RP o0 S0 q0 := by
  refine ⟨⟨rfl, rfl, rfl, rfl, rfl, fun a h1 h2 => ?_, fun a h1 h2 => ?_, fun g hg => ?_⟩, fun j hj g hg => ?_, ⟨0, by show 0 ≤ 6; omega, by omega, rfl, rfl, fun i hi => ?_⟩, rfl, fun z => absurd z (by show ¬ ((0 : Int) = 1); omega), rfl, fun k hk => ?_⟩
  · obtain ⟨n, rfl⟩ : ∃ n : Nat, a = (n : Int) := ⟨a.toNat, by omega⟩
    rw [I_tcN (by omega)]
    exact start_b n (by omega)
  · obtain ⟨n, rfl⟩ : ∃ n : Nat, a = (n : Int) := ⟨a.toNat, by omega⟩
    rw [I_tcN (by omega)]
    exact start_s n (by omega)
  · have : g < 0 := hg
    omega
  · refine ⟨g, hg, I_nI g, fun g' hg' e => ?_⟩
    have e : nI g' = nI g := e
    rw [I_nI, I_nI] at e
    have := I_inj (by omega) (by omega) (by omega) (by omega) e
    omega
  · have : i < 0 := hi
    omega
  · have : k < 0 := hk
    omega
theorem start_B : RB S0 q0 0 := by
  have e8 : S0 228 = 0 := rfl
  refine ⟨⟨by rw [e8]; omega, fun k h1 h2 => ?_, by show 0 ≤ (0 : Int) ∧ (0 : Int) ≤ ((0 : Nat) : Int); omega, by show 0 ≤ (0 : Int) ∧ (0 : Int) ≤ ((0 : Nat) : Int); omega, fun k h1 h2 => ?_, by show -1 ≤ (-1 : Int) ∧ (-1 : Int) ≤ 60; omega, by show -1 ≤ (-1 : Int) ∧ (-1 : Int) ≤ 8; omega, fun g hg => ?_⟩, fun i hi => ?_, by show 0 ≤ 6; omega, Or.inl rfl, fun z => absurd z (by show ¬ ((0 : Int) = 1); omega), by show 0 ≤ 60; omega, fun k hk => ?_, ⟨rfl, rfl⟩, fun i hi => ?_, fun z => absurd z (by show ¬ ((0 : Int) = 1); omega)⟩
  · obtain ⟨n, rfl⟩ : ∃ n : Nat, k = (n : Int) := ⟨k.toNat, by omega⟩
    exact start_bb n (by omega)
  · obtain ⟨n, rfl⟩ : ∃ n : Nat, k = (n : Int) := ⟨k.toNat, by omega⟩
    exact start_sb n (by omega)
  · rw [e8] at hg
    omega
  · have : i < 0 := hi
    omega
  · have : k < 0 := hk
    omega
  · have : i < 0 := hi
    omega
theorem start_I : INV S0 := by
  have e8 : gm S0 = 0 := rfl
  refine ⟨fun g hg => ?_, fun g h hg => ?_⟩ <;> rw [e8] at hg <;> omega
theorem law_pure (xs : Nat → Int32) (L : Nat) (hL : L ≤ 260) : LL_law_23 xs L FU (o0, o0) 0 = some 1 :=
  law_loop xs L hL FU 0 0 S0 q0 q0 (o0, o0) (by unfold FU; omega) (by omega) (by omega) ⟨start_P, start_P⟩ start_B start_B start_I
