/-! the world behind the constructors -/
def o0 : OM := (fun k _ j => if k = 1 then (if j = 3 then -1 else if j = 4 then -1 else 0) else if k = 2 then fFB j else if k = 3 then fFS j else if k = 4 then nI j else if k = 5 then (if j = 5 then -1 else 0) else 0, fun _ => 0)
def eqv (x y : va_E) : Prop := ∀ (D : va_G) (cl : List vw_C) (q : Nat) (H : Heap), va_at D cl (q, x) H → va_at D cl (q, y) H
theorem eqv.of {x y : va_E} (h : x = y) : eqv x y := fun _ _ _ _ hx => h ▸ hx
theorem eqv.q {cA : ClassId} {N : Nat} {f g : Nat → Option Nat} (h : ∀ j, j < N → f j = g j) : eqv (.inl (cA, N, .inr (.inr (.inr (.inr f))))) (.inl (cA, N, .inr (.inr (.inr (.inr g))))) := by
  intro D cl q H hx
  have e : vp_cell cA (N, .inr (.inr (.inr (.inr f)))) = vp_cell cA (N, .inr (.inr (.inr (.inr g)))) := by
    rw [vp_cell_q, vp_cell_q]
    unfold arrV
    congr 1
    apply Array.ext_getElem?
    intro i
    by_cases hi : i < N
    · simp [hi, h i hi]
    · rw [Array.getElem?_eq_none (by simp; omega), Array.getElem?_eq_none (by simp; omega)]
  show H[q]? = some (vp_cell cA (N, .inr (.inr (.inr (.inr g)))))
  rw [← e]
  exact hx
theorem tO_at {j q : Nat} (hq : q < 6) : tO (6 * j + q) = sO j + 4 + 9 * q := by
  unfold tO
  rw [show (6 * j + q) / 6 = j by omega, show (6 * j + q) % 6 = q by omega]
theorem pt_cel (G : Gd) (t w : Nat) (hw : w < 8) : ptC G (tO t + 1) w = cel G o0 (6 + w) t := by
  have h : w = 0 ∨ w = 1 ∨ w = 2 ∨ w = 3 ∨ w = 4 ∨ w = 5 ∨ w = 6 ∨ w = 7 := by omega
  rcases h with rfl | rfl | rfl | rfl | rfl | rfl | rfl | rfl <;> rfl
theorem th_cel (G : Gd) (t w : Nat) (hw : w < 9) : thC G (tO t) w = cel G o0 (5 + w) t := by
  unfold thC
  by_cases h : w = 0
  · subst h
    rfl
  · rw [if_neg h, pt_cel G t (w - 1) (by omega)]
    rw [show 6 + (w - 1) = 5 + w by omega]
theorem st_cel (G : Gd) (j r : Nat) (hr : r < 58) : eqv (stC G (sO j) r) (cel G o0 (stK r j).1 (stK r j).2) := by
  by_cases h : r < 4
  · have h : r = 0 ∨ r = 1 ∨ r = 2 ∨ r = 3 := by omega
    rcases h with rfl | rfl | rfl | rfl
    · exact eqv.of rfl
    · exact eqv.of rfl
    · exact eqv.of rfl
    · refine eqv.q (fun i hi => ?_)
      show (if i < 6 then some (G.1 + (sO j + 4 + 9 * i)) else none) = some (rA G 5 (tid j (nI i)))
      rw [if_pos hi]
      unfold tid
      rw [nI_clamp (by omega), show i % 6 = i by omega]
      show some (G.1 + (sO j + 4 + 9 * i)) = some (G.1 + tO (6 * j + i))
      rw [tO_at hi]
  · have h1 : stK r j = (5 + (r - 4) % 9, 6 * j + (r - 4) / 9) := by unfold stK; rw [if_neg h]
    rw [h1]
    refine eqv.of ?_
    unfold stC stI
    rw [if_neg (by omega), if_neg (by omega), if_neg (by omega), if_neg (by omega), ← tO_at (by omega)]
    exact th_cel G _ _ (by omega)
theorem hi_cel (G : Gd) (r : Nat) (hr : r < 350) : eqv (hiC G 117 r) (cel G o0 (kd (117 + r)).1 (kd (117 + r)).2) := by
  have h : r = 0 ∨ r = 1 ∨ 2 ≤ r := by omega
  rcases h with rfl | rfl | h
  · exact eqv.of rfl
  · refine eqv.q (fun i hi => ?_)
    show (if i < 6 then some (G.1 + (117 + 2 + 58 * i)) else none) = some (rA G 1 (i + 2))
    rw [if_pos hi]
    unfold rA
    congr 2
    show _ = sO (i + 2)
    unfold sO
    rw [if_neg (by omega), if_neg (by omega)]
    omega
  · have hk : kd (117 + r) = stK ((r - 2) % 58) ((r - 2) / 58 + 2) := by
      unfold kd
      rw [if_neg (by omega), if_neg (by omega), if_neg (by omega), if_neg (by omega), if_pos (by omega), show 117 + r - 119 = r - 2 by omega]
    rw [hk]
    have hh : hiC G 117 r = stC G (sO ((r - 2) / 58 + 2)) ((r - 2) % 58) := by
      unfold hiC hiI
      rw [if_neg (by omega), if_neg (by omega)]
      congr 1
      unfold sO
      rw [if_neg (by omega), if_neg (by omega)]
      omega
    rw [hh]
    exact st_cel G _ _ (by omega)
theorem tp_cel (G : Gd) (n : Nat) (hn : n < 470) : eqv (tpC G 0 n) (cel G o0 (kd n).1 (kd n).2) := by
  by_cases h0 : n = 0
  · subst h0
    exact eqv.of rfl
  · by_cases h1 : n < 59
    · have hk : kd n = stK (n - 1) 0 := by
        unfold kd
        rw [if_neg h0, if_pos (by omega), show (n - 1) % 58 = n - 1 by omega, show (n - 1) / 58 = 0 by omega]
      rw [hk]
      have hh : tpC G 0 n = stC G (sO 0) (n - 1) := by
        unfold tpC
        rw [if_neg h0, if_pos h1]
        rfl
      rw [hh]
      exact st_cel G 0 _ (by omega)
    · by_cases h2 : n < 117
      · have hk : kd n = stK (n - 59) 1 := by
          unfold kd
          rw [if_neg h0, if_pos (by omega), show (n - 1) % 58 = n - 59 by omega, show (n - 1) / 58 = 1 by omega]
        rw [hk]
        have hh : tpC G 0 n = stC G (sO 1) (n - 59) := by
          unfold tpC
          rw [if_neg h0, if_neg h1, if_pos h2]
          rfl
        rw [hh]
        exact st_cel G 1 _ (by omega)
      · by_cases h3 : n < 467
        · obtain ⟨r, rfl⟩ : ∃ r, n = 117 + r := ⟨n - 117, by omega⟩
          have hh : tpC G 0 (117 + r) = hiC G 117 r := by
            unfold tpC
            rw [if_neg h0, if_neg h1, if_neg h2, if_pos h3, Nat.add_sub_cancel_left]
          rw [hh]
          exact hi_cel G r (by omega)
        · have h : n = 467 ∨ n = 468 ∨ n = 469 := by omega
          rcases h with rfl | rfl | rfl <;> exact eqv.of rfl
theorem pt_sh (G : Gd) (a k : Nat) : ptE G (470 + a) k = ptE (pG G) a k := by
  unfold ptE
  show _ = Sum.inr (1, [_, if 0 < k then Value.ref (G.1 + 470 + (a + 1)) else .null, if 1 < k then .ref (G.1 + 470 + (a + 2)) else .null, if 2 < k then .ref (G.1 + 470 + (a + 3)) else .null, if 3 < k then .ref (G.1 + 470 + (a + 4)) else .null, if 4 < k then .ref (G.1 + 470 + (a + 5)) else .null, if 5 < k then .ref (G.1 + 470 + (a + 6)) else .null, if 6 < k then .ref (G.1 + 470 + (a + 7)) else .null])
  simp only [Nat.add_assoc]
theorem ref_sh (G : Gd) (a c : Nat) : G.1 + (470 + a + c) = (pG G).1 + (a + c) := by
  show _ = G.1 + 470 + (a + c)
  omega
theorem ref_sh0 (G : Gd) (a : Nat) : G.1 + (470 + a) = (pG G).1 + a := by
  show _ = G.1 + 470 + a
  omega
theorem ptC_sh (G : Gd) (a r : Nat) : ptC G (470 + a) r = ptC (pG G) a r := by
  unfold ptC
  rw [pt_sh]
  rfl
theorem thC_sh (G : Gd) (a r : Nat) : thC G (470 + a) r = thC (pG G) a r := by
  unfold thC thE
  rw [ref_sh, Nat.add_assoc 470 a 1, ptC_sh]
theorem rfT_sh (G : Gd) (a i : Nat) : rfT G (470 + a) i = rfT (pG G) a i := by
  funext n
  unfold rfT
  rw [show G.1 + (470 + a + 4 + 9 * n) = (pG G).1 + (a + 4 + 9 * n) from by show _ = G.1 + 470 + (a + 4 + 9 * n); omega]
theorem stC_sh (G : Gd) (a r : Nat) : stC G (470 + a) r = stC (pG G) a r := by
  unfold stC stI stE arT
  rw [ref_sh, ref_sh, ref_sh, rfT_sh, show 470 + a + 4 + 9 * ((r - 4) / 9) = 470 + (a + 4 + 9 * ((r - 4) / 9)) from by omega, thC_sh]
theorem rfS_sh (G : Gd) (a i : Nat) : rfS G (470 + a) i = rfS (pG G) a i := by
  funext n
  unfold rfS
  rw [show G.1 + (470 + a + 2 + 58 * n) = (pG G).1 + (a + 2 + 58 * n) from by show _ = G.1 + 470 + (a + 2 + 58 * n); omega]
theorem hiC_sh (G : Gd) (a r : Nat) : hiC G (470 + a) r = hiC (pG G) a r := by
  unfold hiC hiI arS
  rw [ref_sh, rfS_sh, show 470 + a + 2 + 58 * ((r - 2) / 58) = 470 + (a + 2 + 58 * ((r - 2) / 58)) from by omega, stC_sh]
theorem wkC_sh (G : Gd) (a r : Nat) : wkC G (470 + a) r = wkC (pG G) a r := by
  unfold wkC wkE
  rw [ref_sh, ref_sh]
  rfl
theorem tpC_sh (G : Gd) (a r : Nat) : tpC G (470 + a) r = tpC (pG G) a r := by
  unfold tpC
  rw [ref_sh, ref_sh, ref_sh, ref_sh, Nat.add_assoc 470 a 1, Nat.add_assoc 470 a 59, Nat.add_assoc 470 a 117, Nat.add_assoc 470 a 467, stC_sh, stC_sh, hiC_sh, wkC_sh]
def f9 (G : Gd) : Nat → va_E := fun n => if n < 470 then tpC G 0 n else if n < 940 then tpC G 470 (n - 470) else arI G 1
theorem f9_1 {G : Gd} (hN : aN G = 470) {H : Heap} (h : va_P (gD G) vwCl (WSn G (f9 G) 941) H) : va_P (gD G) vwCl (WS G o0) H := by
  intro k q hk
  by_cases hn : k < 471
  · rw [WS_get hn] at hk
    cases hk
    by_cases e : k = 470
    · subst e
      have g := h 940 _ (WSn_get (by omega))
      rw [cel_out, adW_470, hN]
      exact g
    · have g := h k _ (WSn_get (by omega))
      rw [adW_lt (by omega)]
      unfold f9 at g
      rw [if_pos (by omega)] at g
      exact tp_cel G k (by omega) _ _ _ _ g
  · rw [WS_out hn] at hk
    cases hk
theorem f9_2 {G : Gd} {H : Heap} (h : va_P (gD G) vwCl (WSn G (f9 G) 941) H) : va_P (gD G) vwCl (WS (pG G) o0) H := by
  intro k q hk
  by_cases hn : k < 471
  · rw [WS_get hn] at hk
    cases hk
    by_cases e : k = 470
    · subst e
      have g := h 940 _ (WSn_get (by omega))
      rw [cel_out, adW_470]
      exact g
    · have g := h (470 + k) _ (WSn_get (by omega))
      rw [adW_lt (by omega)]
      unfold f9 at g
      rw [if_neg (by omega), if_pos (by omega), Nat.add_sub_cancel_left] at g
      have g2 : va_at (gD G) vwCl ((pG G).1 + k, tpC G (470 + 0) k) H := by rw [← ref_sh0]; exact g
      rw [tpC_sh] at g2
      exact tp_cel (pG G) k (by omega) _ _ _ _ g2
  · rw [WS_out hn] at hk
    cases hk
theorem f9_w (G : Gd) (e1 e2 : va_E) (j : Nat) (hj : j < 941) : fu (blk (fu (blk (fu (fun _ => arI G 0) 0 e1) 0 470 (tpC G 0)) 470 e2) 470 470 (tpC G 470)) 940 (arI G 1) j = f9 G j := by
  unfold f9
  by_cases h : j < 470
  · rw [if_pos h, fu_n (by omega), blk_out (by omega), fu_n (by omega), blk_in (by omega), Nat.sub_zero]
  · rw [if_neg h]
    by_cases h2 : j < 940
    · rw [if_pos h2, fu_n (by omega), blk_in (by omega)]
    · obtain rfl : j = 940 := by omega
      rw [if_neg h2, fu_s]
