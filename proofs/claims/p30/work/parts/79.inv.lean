/-! what holds of every row that is reached, beside the bounds -/
def hs : Nat → Int
  | 0 => 0
  | n + 1 => hs n + 60 / ((n : Int) + 1)
theorem hs_60 : ∀ n : Nat, n < 61 → 0 ≤ hs n ∧ hs n ≤ 300 := by decide +kernel
theorem hs_hi : ∀ k : Nat, hs (60 + k) = hs 60
  | 0 => rfl
  | k + 1 => by
    have e : hs (60 + (k + 1)) = hs (60 + k) + 60 / (((60 + k : Nat) : Int) + 1) := rfl
    rw [e, hs_hi k, Int.ediv_eq_zero_of_lt (by omega) (by omega)]
    omega
theorem hs_rg (n : Nat) : 0 ≤ hs n ∧ hs n ≤ 300 := by
  by_cases h : n < 61
  · exact hs_60 n h
  · obtain ⟨k, rfl⟩ : ∃ k, n = 60 + k := ⟨n - 60, by omega⟩
    rw [hs_hi]
    exact hs_60 60 (by omega)
def IG (S : Int → Int) (g : Nat) : Prop :=
  S (38 * (g : Int) + 3) ≤ S 233 ∧ S (38 * (g : Int) + 4) ≤ hs (S (38 * (g : Int) + 3)).toNat ∧ (S (38 * (g : Int) + 5) = -1 ∨ (1 ≤ S (38 * (g : Int) + 5) ∧ S (38 * (g : Int) + 5) ≤ S 234)) ∧
  ∀ k, k < gn S g → (-999 ≤ pr S g k ∧ pr S g k ≤ 1999) ∧ py S g k ≤ S 233
def INV (S : Int → Int) : Prop := (∀ g, g < gm S → IG S g) ∧ ∀ g h, g < gm S → h < gm S → g ≠ h → S (38 * (g : Int) + 5) = -1 ∨ S (38 * (g : Int) + 5) ≠ S (38 * (h : Int) + 5)
theorem IG.sh {S S' : Int → Int} {g h : Nat} (hG : IG S g) (hn : gn S g ≤ 10) (e : ∀ w : Int, 0 ≤ w → w < 38 → S' (38 * (h : Int) + w) = S (38 * (g : Int) + w)) (h1 : S 233 ≤ S' 233) (h2 : S 234 ≤ S' 234) : IG S' h := by
  obtain ⟨p1, p2⟩ := pts_sh (fun w h1 h2 => e w (by omega) h2)
  obtain ⟨a1, a2, a3, a4⟩ := hG
  unfold IG
  rw [e 3 (by omega) (by omega), e 4 (by omega) (by omega), e 5 (by omega) (by omega), p1]
  refine ⟨by omega, a2, by omega, fun k hk => ?_⟩
  rw [(p2 k (by omega)).1, (p2 k (by omega)).2.2]
  have := a4 k hk
  omega
section
variable {S : Int → Int} {g Y : Nat}
theorem INV.up (hI : INV S) (hB : SB S Y) {a v : Int} (ha : 229 ≤ a) (h3 : a ≠ 233) (h4 : a ≠ 234) : INV (upI S a v) := by
  have hm := hB.m
  have egm : gm (upI S a v) = gm S := by
    show Int.toNat _ = _
    rw [upI_n _ _ (by omega)]
    rfl
  refine ⟨fun g hg => ?_, fun g h hg hh hn => ?_⟩
  · rw [egm] at hg
    exact (hI.1 g hg).sh ((hB.g hg).p.1) (fun w h1 h2 => upI_n _ _ (by omega)) (by rw [upI_n _ _ (by omega)]; omega) (by rw [upI_n _ _ (by omega)]; omega)
  · rw [egm] at hg hh
    rw [upI_n _ _ (by omega), upI_n _ _ (by omega)]
    exact hI.2 g h hg hh hn
theorem INV.make (hI : INV S) (hB : SB S Y) (hm6 : gm S < 6) {a b c : Int} : INV (makeS S a b c) := by
  have hm := hB.m
  have e := makeS_gm S a b c hm.1
  have lo : ∀ g : Nat, g < gm S → ∀ w : Int, 0 ≤ w → w < 38 → makeS S a b c (38 * (g : Int) + w) = S (38 * (g : Int) + w) := fun g hg w h1 h2 => makeS_lo S a b c (by omega) (by omega)
  have hi : ∀ x : Int, 229 ≤ x → makeS S a b c x = S x := fun x hx => makeS_lo S a b c (by omega) (by omega)
  have nw := fun (w : Int) (h1 : 0 ≤ w) (h2 : w < 38) => makeS_new S a b c hm6 h1 h2
  refine ⟨fun g hg => ?_, fun g h hg hh hn => ?_⟩
  · rw [e.2] at hg
    by_cases hc : g = gm S
    · subst hc
      have n0 : gn (makeS S a b c) (gm S) = 0 := by
        unfold gn
        rw [nw 7 (by omega) (by omega)]
        rfl
      unfold IG
      rw [nw 3 (by omega) (by omega), nw 4 (by omega) (by omega), nw 5 (by omega) (by omega), n0, hi 233 (by omega), hi 234 (by omega)]
      refine ⟨?_, ?_, Or.inl rfl, fun k hk => by omega⟩
      · have := hB.2.2.1
        exact this.1
      · exact (hs_rg _).1
    · exact (hI.1 g (by omega)).sh ((hB.g (show g < gm S by omega)).p.1) (fun w h1 h2 => lo g (by omega) w h1 h2) (by rw [hi _ (by omega)]; omega) (by rw [hi _ (by omega)]; omega)
  · rw [e.2] at hg hh
    by_cases hc : g = gm S
    · left
      subst hc
      rw [nw 5 (by omega) (by omega)]
      rfl
    · rw [lo g (by omega) 5 (by omega) (by omega)]
      by_cases hd : h = gm S
      · subst hd
        rw [nw 5 (by omega) (by omega)]
        have h1 := (hI.1 g (by omega)).2.2.1
        have z : (if (5 : Int) = 0 then a else if (5 : Int) = 1 then b else if (5 : Int) = 2 then c else if (5 : Int) = 5 then (-1 : Int) else 0) = -1 := rfl
        rw [z]
        omega
      · rw [lo h (by omega) 5 (by omega) (by omega)]
        exact hI.2 g h (by omega) (by omega) hn
theorem INV.brk (hI : INV S) (hB : SB S Y) (hg : g < gm S) : INV (brkS S g) := by
  have hm := hB.m
  have e := brkS_gm S g hm.1
  have hi : ∀ x : Int, 229 ≤ x → brkS S g x = S x := fun x hx => brkS_hi S g (by omega) (by omega)
  have lo : ∀ h : Nat, h < g → ∀ w : Int, 0 ≤ w → w < 38 → brkS S g (38 * (h : Int) + w) = S (38 * (h : Int) + w) := fun h hh w h1 h2 => brkS_lo S g (by omega) (by omega)
  have up : ∀ h : Nat, g ≤ h → h + 1 < gm S → ∀ w : Int, 0 ≤ w → w < 38 → brkS S g (38 * (h : Int) + w) = S (38 * ((h + 1 : Nat) : Int) + w) := fun h hh hx w h1 h2 => by
    rw [brkS_sh S g (by omega) (by omega)]
    congr 1
    omega
  refine ⟨fun h hh => ?_, fun h h' hh hh' hn => ?_⟩
  · rw [e] at hh
    by_cases hc : h < g
    · exact (hI.1 h (by omega)).sh ((hB.g (show h < gm S by omega)).p.1) (lo h hc) (by rw [hi _ (by omega)]; omega) (by rw [hi _ (by omega)]; omega)
    · exact (hI.1 (h + 1) (by omega)).sh ((hB.g (show h + 1 < gm S by omega)).p.1) (up h (by omega) (by omega)) (by rw [hi _ (by omega)]; omega) (by rw [hi _ (by omega)]; omega)
  · rw [e] at hh hh'
    by_cases hc : h < g <;> by_cases hd : h' < g
    · rw [lo h hc 5 (by omega) (by omega), lo h' hd 5 (by omega) (by omega)]
      exact hI.2 h h' (by omega) (by omega) hn
    · rw [lo h hc 5 (by omega) (by omega), up h' (by omega) (by omega) 5 (by omega) (by omega)]
      exact hI.2 h (h' + 1) (by omega) (by omega) (by omega)
    · rw [up h (by omega) (by omega) 5 (by omega) (by omega), lo h' hd 5 (by omega) (by omega)]
      exact hI.2 (h + 1) h' (by omega) (by omega) (by omega)
    · rw [up h (by omega) (by omega) 5 (by omega) (by omega), up h' (by omega) (by omega) 5 (by omega) (by omega)]
      exact hI.2 (h + 1) (h' + 1) (by omega) (by omega) (by omega)
/-- one thermometer is changed, but neither its seal nor its age -/
theorem INV.one {S' : Int → Int} (hI : INV S) (hB : SB S Y) (hg : g < gm S) (hG : IG S' g) (h5 : S' (38 * (g : Int) + 5) = S (38 * (g : Int) + 5)) (e : ∀ a : Int, (a < 38 * (g : Int) ∨ 38 * (g : Int) + 38 ≤ a) → S' a = S a) : INV S' := by
  have hm := hB.m
  have egm : gm S' = gm S := by
    show Int.toNat _ = _
    rw [e 228 (by omega)]
    rfl
  have h5' : ∀ h : Nat, S' (38 * (h : Int) + 5) = S (38 * (h : Int) + 5) := fun h => by
    by_cases hc : h = g
    · rw [hc]; exact h5
    · exact e _ (by omega)
  refine ⟨fun h hh => ?_, fun h h' hh hh' hn => ?_⟩
  · rw [egm] at hh
    by_cases hc : h = g
    · rw [hc]; exact hG
    · exact (hI.1 h hh).sh ((hB.g hh).p.1) (fun w h1 h2 => e _ (by omega)) (by rw [e 233 (by omega)]; omega) (by rw [e 234 (by omega)]; omega)
  · rw [egm] at hh hh'
    rw [h5', h5']
    exact hI.2 h h' hh hh' hn
theorem IG.cut (hI : IG S g) (hG : GB S g Y) (hg : g < 6) {q : Nat} (hq : q < gn S g) : IG (cutS S g q) g := by
  obtain ⟨a1, a2, a3, a4⟩ := hI
  have hn := hG.p.1
  have e := cutS_gn hG.n hq
  unfold IG
  rw [cutS_lo S g q (a := 38 * (g : Int) + 3) (by omega), cutS_lo S g q (a := 38 * (g : Int) + 4) (by omega), cutS_lo S g q (a := 38 * (g : Int) + 5) (by omega), cutS_lo S g q (a := 233) (by omega), cutS_lo S g q (a := 234) (by omega), e]
  refine ⟨a1, a2, a3, fun k hk => ?_⟩
  obtain ⟨c1, c2, c3⟩ := cutS_p S g q (k := k) (by omega)
  rw [c1, c3]
  unfold cutf
  split
  · exact a4 k (by omega)
  · exact a4 (k + 1) (by omega)
theorem IG.drop (hI : IG S g) (hG : GB S g Y) (hg : g < 6) (z : Int) : IG (dropS S g z) g := by
  rcases dropS_or hG z with ⟨-, h⟩ | ⟨q, h1, -, -, h⟩
  · rw [h]; exact hI
  · rw [h]; exact hI.cut hG hg h1
theorem INV.drop (hI : INV S) (hB : SB S Y) (hg : g < gm S) (z : Int) : INV (dropS S g z) := by
  have hm := hB.m
  exact hI.one hB hg ((hI.1 g hg).drop (hB.g hg) (by omega) z) (dropS_lo (hB.g hg) z (by omega)) (fun a ha => dropS_lo (hB.g hg) z (by omega))
theorem rdg_in (hI : IG S g) (hG : GB S g Y) {z : Int} (h1 : -400 ≤ z) (h2 : z ≤ 1500) : -999 ≤ rdg S g z ∧ rdg S g z ≤ 1999 := by
  obtain ⟨a1, a2, a3, a4⟩ := hI
  obtain ⟨b1, b2, b3, b4, b5, -⟩ := hG
  have q := (hs_rg (S (38 * (g : Int) + 3)).toNat).2
  have m1 : z * (1000 + S (38 * (g : Int) + 1)) ≤ 1500 * (1000 + S (38 * (g : Int) + 1)) := Int.mul_le_mul_of_nonneg_right h2 (by omega)
  have m2 : -400 * (1000 + S (38 * (g : Int) + 1)) ≤ z * (1000 + S (38 * (g : Int) + 1)) := Int.mul_le_mul_of_nonneg_right h1 (by omega)
  unfold rdg
  omega
theorem IG.meas (hI : IG S g) (hG : GB S g Y) (hg : g < 6) (hy0 : 0 ≤ S 233) {z : Int} (h1 : -400 ≤ z) (h2 : z ≤ 1500) (h0 : hnd S g z = 0) : IG (measS S g z) g := by
  have hd := hI.drop hG hg z
  have hr := rdg_in hI hG h1 h2
  have hk := meas_ok hG h0
  obtain ⟨a1, a2, a3, a4⟩ := hd
  have lo : ∀ a : Int, a < 38 * (g : Int) + 7 → measS S g z a = dropS S g z a := fun a ha => addS_lo _ g _ _ _ (by omega) hk.1
  have hi : ∀ a : Int, 38 * (g : Int) + 38 ≤ a → measS S g z a = dropS S g z a := fun a ha => addS_lo _ g _ _ _ (by omega) hk.1
  have y := dropS_lo hG z (a := 233) (by omega)
  have en := (addS_gn (dropS S g z) g (rdg S g z) z (S 233)).2
  unfold IG
  rw [lo (38 * (g : Int) + 3) (by omega), lo (38 * (g : Int) + 4) (by omega), lo (38 * (g : Int) + 5) (by omega), hi 233 (by omega), hi 234 (by omega)]
  refine ⟨a1, a2, a3, fun k hk => ?_⟩
  have hk : k < gn (dropS S g z) g + 1 := by
    rw [← en]
    exact hk
  by_cases hc : k < gn (dropS S g z) g
  · have o := addS_old (dropS S g z) g (rdg S g z) z (S 233) hc
    unfold measS
    rw [o.1, o.2.2]
    exact a4 k hc
  · obtain rfl : k = gn (dropS S g z) g := by omega
    have o := addS_new (dropS S g z) g (rdg S g z) z (S 233)
    unfold measS
    rw [o.1, o.2.2]
    rw [y]
    exact ⟨hr, Int.le_refl _⟩
theorem INV.meas (hI : INV S) (hB : SB S Y) (hg : g < gm S) {z : Int} (h1 : -400 ≤ z) (h2 : z ≤ 1500) (h0 : hnd S g z = 0) : INV (measS S g z) := by
  have hm := hB.m
  exact hI.one hB hg ((hI.1 g hg).meas (hB.g hg) (by omega) hB.2.2.1.1 h1 h2 h0) (measS_lo (hB.g hg) h0 (by omega)) (fun a ha => measS_lo (hB.g hg) h0 (by omega))
theorem sealS_at (S : Int → Int) (hg : g < 6) : sealS S g 234 = S 234 + 1 ∧ sealS S g (38 * (g : Int) + 5) = S 234 + 1 ∧ sealS S g (38 * (g : Int) + 6) = S (38 * (g : Int) + 4) ∧ ∀ a : Int, a ≠ 234 → a ≠ 38 * (g : Int) + 5 → a ≠ 38 * (g : Int) + 6 → sealS S g a = S a := by
  unfold sealS
  refine ⟨?_, ?_, ?_, fun a h1 h2 h3 => ?_⟩
  · rw [upI_n _ _ (by omega), upI_n _ _ (by omega), upI_s]
  · rw [upI_n _ _ (by omega), upI_s]
  · rw [upI_s]
  · rw [upI_n _ _ h3, upI_n _ _ h2, upI_n _ _ h1]
theorem INV.seal (hI : INV S) (hB : SB S Y) (hg : g < gm S) : INV (sealS S g) := by
  have hm := hB.m
  obtain ⟨s1, s2, s3, s4⟩ := sealS_at S (g := g) (by omega)
  have egm : gm (sealS S g) = gm S := by
    show Int.toNat _ = _
    rw [s4 228 (by omega) (by omega) (by omega)]
    rfl
  have h5 : ∀ h : Nat, h ≠ g → sealS S g (38 * (h : Int) + 5) = S (38 * (h : Int) + 5) := fun h hh => s4 _ (by omega) (by omega) (by omega)
  refine ⟨fun h hh => ?_, fun h h' hh hh' hn => ?_⟩
  · rw [egm] at hh
    by_cases hc : h = g
    · subst hc
      obtain ⟨a1, a2, a3, a4⟩ := hI.1 h hh
      obtain ⟨p1, p2⟩ := pts_c (S := S) (S' := sealS S h) (g := h) (fun a x y => s4 a (by omega) (by omega) (by omega))
      have hn := (hB.g hh).p.1
      unfold IG
      rw [s2, s1, s4 (38 * (h : Int) + 3) (by omega) (by omega) (by omega), s4 (38 * (h : Int) + 4) (by omega) (by omega) (by omega), s4 233 (by omega) (by omega) (by omega), p1]
      refine ⟨a1, a2, Or.inr ⟨?_, Int.le_refl _⟩, fun k hk => ?_⟩
      · have := hB.2.2.2.1
        omega
      · rw [(p2 k (by omega)).1, (p2 k (by omega)).2.2]
        exact a4 k hk
    · exact (hI.1 h hh).sh ((hB.g hh).p.1) (fun w h1 h2 => s4 _ (by omega) (by omega) (by omega)) (by rw [s4 233 (by omega) (by omega) (by omega)]; omega) (by rw [s1]; omega)
  · rw [egm] at hh hh'
    have q0 := hB.2.2.2.1
    by_cases hc : h = g
    · subst hc
      right
      rw [s2, h5 h' (by omega)]
      have := (hI.1 h' hh').2.2.1
      omega
    · rw [h5 h hc]
      by_cases hd : h' = g
      · subst hd
        rw [s2]
        have := (hI.1 h hh).2.2.1
        omega
      · rw [h5 h' hd]
        exact hI.2 h h' hh hh' hn
theorem INV.year (hI : INV S) (hB : SB S Y) : INV (upI (yrS S (gm S)) 233 (S 233 + 1)) := by
  have hm := hB.m
  have egm := hB.year.2
  have v233 : upI (yrS S (gm S)) 233 (S 233 + 1) 233 = S 233 + 1 := upI_s _ _ _
  have v234 : upI (yrS S (gm S)) 233 (S 233 + 1) 234 = S 234 := by rw [upI_n _ _ (by omega), yrS_n S (gm S) (fun h hh => by omega)]
  have oth : ∀ (g : Nat) (w : Int), g < 6 → 0 ≤ w → w < 38 → w ≠ 3 → w ≠ 4 → upI (yrS S (gm S)) 233 (S 233 + 1) (38 * (g : Int) + w) = S (38 * (g : Int) + w) := fun g w hg h1 h2 h3 h4 => by
    rw [upI_n _ _ (by omega), yrS_n S (gm S) (fun h hh => by omega)]
  refine ⟨fun g hg => ?_, fun g h hg hh hn => ?_⟩
  · rw [egm] at hg
    obtain ⟨a1, a2, a3, a4⟩ := hI.1 g hg
    have hG := hB.g hg
    have b3 := hG.2.2.1
    have b4 := hG.2.2.2.1
    have hn := hG.p.1
    have gr := grow_rg hB hG
    obtain ⟨y4, y3⟩ := yrS_g S (h := g) (by omega) b3 (gm S) (by omega) hg
    have w3 : upI (yrS S (gm S)) 233 (S 233 + 1) (38 * (g : Int) + 3) = S (38 * (g : Int) + 3) + 1 := by rw [upI_n _ _ (by omega)]; exact y3
    have w4 : upI (yrS S (gm S)) 233 (S 233 + 1) (38 * (g : Int) + 4) = S (38 * (g : Int) + 4) + S (235 + S (38 * (g : Int) + 2)) / (S (38 * (g : Int) + 3) + 1) := by rw [upI_n _ _ (by omega)]; exact y4
    have p7 : gn (upI (yrS S (gm S)) 233 (S 233 + 1)) g = gn S g := gn_c (oth g 7 (by omega) (by omega) (by omega) (by omega) (by omega))
    have pk : ∀ k, k < 10 → pr (upI (yrS S (gm S)) 233 (S 233 + 1)) g k = pr S g k ∧ py (upI (yrS S (gm S)) 233 (S 233 + 1)) g k = py S g k := fun k hk => by
      unfold pr py
      rw [Int.add_assoc]
      exact ⟨oth g _ (by omega) (by omega) (by omega) (by omega) (by omega), oth g _ (by omega) (by omega) (by omega) (by omega) (by omega)⟩
    unfold IG
    rw [w3, w4, v233, v234, oth g 5 (by omega) (by omega) (by omega) (by omega) (by omega), p7]
    refine ⟨by omega, ?_, a3, fun k hk => ?_⟩
    · obtain ⟨n, hn'⟩ : ∃ n : Nat, S (38 * (g : Int) + 3) = (n : Int) := ⟨(S (38 * (g : Int) + 3)).toNat, by omega⟩
      rw [hn'] at a2 ⊢
      have e : ((n : Int) + 1).toNat = n + 1 := by omega
      have e2 : hs (n + 1) = hs n + 60 / ((n : Int) + 1) := rfl
      have e3 : S (235 + S (38 * (g : Int) + 2)) / ((n : Int) + 1) ≤ 60 / ((n : Int) + 1) := Int.ediv_le_ediv (by omega) gr.2.2.2
      rw [e, e2]
      have e4 : ((n : Int)).toNat = n := by omega
      rw [e4] at a2
      omega
    · rw [(pk k (by omega)).1, (pk k (by omega)).2]
      have := a4 k hk
      omega
  · rw [egm] at hg hh
    rw [oth g 5 (by omega) (by omega) (by omega) (by omega) (by omega), oth h 5 (by omega) (by omega) (by omega) (by omega) (by omega)]
    exact hI.2 g h hg hh hn
theorem INV.pass (hI : INV S) (hB : SB S Y) : ∀ k : Nat, INV (passS S k)
  | 0 => hI
  | k + 1 => by
    have e : passS S (k + 1) = upI (yrS (passS S k) (gm S)) 233 (passS S k 233 + 1) := rfl
    obtain ⟨b1, b2, b3⟩ := hB.pass k
    rw [e, ← b2]
    exact (INV.pass hI hB k).year b1
end
