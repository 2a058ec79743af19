/-! the world behind the constructors -/
def o0 : OM := (fun k _ j => if k = 1 then (if j = 3 then -1 else if j = 4 then -1 else 0) else if k = 2 then fFB j else if k = 3 then fFS j else if k = 4 then nI j else if k = 5 then (if j = 5 then -1 else 0) else if k = 20 then moS j else 0, fun _ => 0)
def eqv (x y : va_E) : Prop := ∀ (D : va_G) (cl : List vw_C) (q : Nat) (H : Heap), va_at D cl (q, x) H → va_at D cl (q, y) H
theorem eqv.of {x y : va_E} (h : x = y) : eqv x y := fun _ _ _ _ hx => h ▸ hx
theorem eqv.q {cA : ClassId} {N : Nat} {f g : Nat → Option Nat} (h : ∀ j, j < N → f j = g j) : eqv (.inl (cA, N, .inr (.inr (.inr (.inr f))))) (.inl (cA, N, .inr (.inr (.inr (.inr g))))) := by
  intro D cl q H hx
  have e : vp_cell cA (N, .inr (.inr (.inr (.inr f)))) = vp_cell cA (N, .inr (.inr (.inr (.inr g)))) := by
    rw [vp_cell_q, vp_cell_q]
    unfold arrV
    congr 1
    apply Array.ext_getElem?
    intro i
    by_cases hi : i < N
    · simp [hi, h i hi]
    · rw [Array.getElem?_eq_none (by simp; omega), Array.getElem?_eq_none (by simp; omega)]
  show H[q]? = some (vp_cell cA (N, .inr (.inr (.inr (.inr g)))))
  rw [← e]
  exact hx
theorem tO_at {j q : Nat} (hq : q < 6) : tO (6 * j + q) = sO j + 4 + 9 * q := by
  unfold tO
  rw [show (6 * j + q) / 6 = j by omega, show (6 * j + q) % 6 = q by omega]
theorem pt_cel (G : Gd) (t w : Nat) (hw : w < 8) : ptC G (tO t + 1) w = cel G o0 (6 + w) t := by
  have h : w = 0 ∨ w = 1 ∨ w = 2 ∨ w = 3 ∨ w = 4 ∨ w = 5 ∨ w = 6 ∨ w = 7 := by omega
  rcases h with rfl | rfl | rfl | rfl | rfl | rfl | rfl | rfl <;> rfl
theorem th_cel (G : Gd) (t w : Nat) (hw : w < 9) : thC G (tO t) w = cel G o0 (5 + w) t := by
  unfold thC
  by_cases h : w = 0
  · subst h
    rfl
  · rw [if_neg h, pt_cel G t (w - 1) (by omega)]
    rw [show 6 + (w - 1) = 5 + w by omega]
theorem st_cel (G : Gd) (j r : Nat) (hr : r < 58) : eqv (stC G (sO j) r) (cel G o0 (stK r j).1 (stK r j).2) := by
  by_cases h : r < 4
  · have h : r = 0 ∨ r = 1 ∨ r = 2 ∨ r = 3 := by omega
    rcases h with rfl | rfl | rfl | rfl
    · exact eqv.of rfl
    · exact eqv.of rfl
    · exact eqv.of rfl
    · refine eqv.q (fun i hi => ?_)
      show (if i < 6 then some (G.1 + (sO j + 4 + 9 * i)) else none) = some (rA G 5 (tid j (nI i)))
      rw [if_pos hi]
      unfold tid
      rw [nI_clamp (by omega), show i % 6 = i by omega]
      show some (G.1 + (sO j + 4 + 9 * i)) = some (G.1 + tO (6 * j + i))
      rw [tO_at hi]
  · have h1 : stK r j = (5 + (r - 4) % 9, 6 * j + (r - 4) / 9) := by unfold stK; rw [if_neg h]
    rw [h1]
    refine eqv.of ?_
    unfold stC stI
    rw [if_neg (by omega), if_neg (by omega), if_neg (by omega), if_neg (by omega), ← tO_at (by omega)]
    exact th_cel G _ _ (by omega)
theorem hi_cel (G : Gd) (r : Nat) (hr : r < 350) : eqv (hiC G 117 r) (cel G o0 (kd (117 + r)).1 (kd (117 + r)).2) := by
  have h : r = 0 ∨ r = 1 ∨ 2 ≤ r := by omega
  rcases h with rfl | rfl | h
  · exact eqv.of rfl
  · refine eqv.q (fun i hi => ?_)
    show (if i < 6 then some (G.1 + (117 + 2 + 58 * i)) else none) = some (rA G 1 (i + 2))
    rw [if_pos hi]
    unfold rA
    congr 2
    show _ = sO (i + 2)
    unfold sO
    rw [if_neg (by omega), if_neg (by omega)]
    omega
  · have hk : kd (117 + r) = stK ((r - 2) % 58) ((r - 2) / 58 + 2) := by
      unfold kd
      rw [if_neg (by omega), if_neg (by omega), if_neg (by omega), if_neg (by omega), if_pos (by omega), show 117 + r - 119 = r - 2 by omega]
    rw [hk]
    have hh : hiC G 117 r = stC G (sO ((r - 2) / 58 + 2)) ((r - 2) % 58) := by
      unfold hiC hiI
      rw [if_neg (by omega), if_neg (by omega)]
      congr 1
      unfold sO
      rw [if_neg (by omega), if_neg (by omega)]
      omega
    rw [hh]
    exact st_cel G _ _ (by omega)
theorem tp_cel (G : Gd) (n : Nat) (hn : n < 470) : eqv (tpC G 0 n) (cel G o0 (kd n).1 (kd n).2) := by
  by_cases h0 : n = 0
  · subst h0
    exact eqv.of rfl
  · by_cases h1 : n < 59
    · have hk : kd n = stK (n - 1) 0 := by
        unfold kd
        rw [if_neg h0, if_pos (by omega), show (n - 1) % 58 = n - 1 by omega, show (n - 1) / 58 = 0 by omega]
      rw [hk]
      have hh : tpC G 0 n = stC G (sO 0) (n - 1) := by
        unfold tpC
        rw [if_neg h0, if_pos h1]
        rfl
      rw [hh]
      exact st_cel G 0 _ (by omega)
    · by_cases h2 : n < 117
      · have hk : kd n = stK (n - 59) 1 := by
          unfold kd
          rw [if_neg h0, if_pos (by omega), show (n - 1) % 58 = n - 59 by omega, show (n - 1) / 58 = 1 by omega]
        rw [hk]
        have hh : tpC G 0 n = stC G (sO 1) (n - 59) := by
          unfold tpC
          rw [if_neg h0, if_neg h1, if_pos h2]
          rfl
        rw [hh]
        exact st_cel G 1 _ (by omega)
      · by_cases h3 : n < 467
        · obtain ⟨r, rfl⟩ : ∃ r, n = 117 + r := ⟨n - 117, by omega⟩
          have hh : tpC G 0 (117 + r) = hiC G 117 r := by
            unfold tpC
            rw [if_neg h0, if_neg h1, if_neg h2, if_pos h3, Nat.add_sub_cancel_left]
          rw [hh]
          exact hi_cel G r (by omega)
        · have h : n = 467 ∨ n = 468 ∨ n = 469 := by omega
          rcases h with rfl | rfl | rfl <;> exact eqv.of rfl
theorem mo_cel (G : Gd) (r : Nat) (hr : r < 5) : moC G 470 r = cel G o0 (kd (470 + r)).1 (kd (470 + r)).2 := by
  have h : r = 0 ∨ r = 1 ∨ r = 2 ∨ r = 3 ∨ r = 4 := by omega
  rcases h with rfl | rfl | rfl | rfl | rfl <;> rfl
def f9 (G : Gd) : Nat → va_E := fun n => if n < 470 then tpC G 0 n else if n < 475 then moC G 470 (n - 470) else .inl (aJ G, 1, .inr (.inl (fun _ => 0)))
theorem f9_cel (G : Gd) (n : Nat) (hn : n < 476) : eqv (f9 G n) (cel G o0 (kd n).1 (kd n).2) := by
  unfold f9
  by_cases h : n < 470
  · rw [if_pos h]
    exact tp_cel G n h
  · rw [if_neg h]
    by_cases h2 : n < 475
    · rw [if_pos h2]
      have e := mo_cel G (n - 470) (by omega)
      rw [show 470 + (n - 470) = n by omega] at e
      exact eqv.of e
    · obtain rfl : n = 475 := by omega
      refine eqv.of ?_
      show Sum.inl (aJ G, 1, .inr (.inl (fun _ => 0))) = (Sum.inl (aJ G, 1, .inr (.inl (fun j => if j = 0 then (0 : Int64) else 0))) : va_E)
      refine congrArg (fun f => (Sum.inl (aJ G, 1, .inr (.inl f)) : va_E)) (funext fun j => ?_)
      split <;> rfl
theorem f9_WS {G : Gd} {H : Heap} (h : va_P (gD G) vwCl (WSn G (f9 G) 476) H) : va_P (gD G) vwCl (WS G o0) H := by
  intro k q hk
  by_cases hn : k < 476
  · rw [WS_get hn] at hk
    cases hk
    exact f9_cel G k hn _ _ _ _ (h k _ (WSn_get hn))
  · rw [WS_out hn] at hk
    cases hk
