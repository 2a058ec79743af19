/-! bounds are kept -/
section
variable {S S' : Int → Int} {g Y Y' : Nat} {z : Int}
def lim (k : Int) : Int := if k < 4 then 60 else if k = 4 then 20 else 100
def okv (Y : Nat) (a v : Int) : Prop := (229 ≤ a ∧ a < 233 ∧ -400 ≤ v ∧ v ≤ 1500) ∨ ((a = 233 ∨ a = 234) ∧ 0 ≤ v ∧ v ≤ (Y : Int)) ∨ (235 ≤ a ∧ a < 242 ∧ 0 ≤ v ∧ v ≤ lim (a - 235)) ∨ (a = 242 ∧ -1 ≤ v ∧ v ≤ 60) ∨ (a = 243 ∧ -1 ≤ v ∧ v ≤ 8) ∨ a = 244 ∨ a = 245
theorem SB.up (hB : SB S Y) (hY : Y ≤ Y') {a v : Int} (h : okv Y' a v) : SB (upI S a v) Y' := by
  obtain ⟨b1, b2, b3, b4, b5, b6, b7, b8⟩ := hB
  unfold okv at h
  have ha : 229 ≤ a := by omega
  have e228 : upI S a v 228 = S 228 := upI_n _ _ (by omega)
  refine ⟨by rw [e228]; exact b1, fun k h1 h2 => ?_, ?_, ?_, fun k h1 h2 => ?_, ?_, ?_, fun g hg => ?_⟩
  · by_cases e : 229 + k = a
    · rw [e, upI_s]; omega
    · rw [upI_n _ _ e]; exact b2 k h1 h2
  · by_cases e : 233 = a
    · rw [e, upI_s]; omega
    · rw [upI_n _ _ e]; omega
  · by_cases e : 234 = a
    · rw [e, upI_s]; omega
    · rw [upI_n _ _ e]; omega
  · show 0 ≤ upI S a v (235 + k) ∧ upI S a v (235 + k) ≤ lim k
    by_cases e : 235 + k = a
    · rw [e, upI_s]
      rw [show a - 235 = k from by omega] at h
      omega
    · rw [upI_n _ _ e]; exact b5 k h1 h2
  · by_cases e : 242 = a
    · rw [e, upI_s]; omega
    · rw [upI_n _ _ e]; omega
  · by_cases e : 243 = a
    · rw [e, upI_s]; omega
    · rw [upI_n _ _ e]; omega
  · rw [e228] at hg
    exact (b8 g hg).sh hY (fun w h1 h2 => upI_n _ _ (by omega))
theorem SB.c (hB : SB S Y) (hY : Y ≤ Y') (e : ∀ a : Int, 0 ≤ a → a < 244 → S' a = S a) : SB S' Y' := by
  obtain ⟨b1, b2, b3, b4, b5, b6, b7, b8⟩ := hB
  refine ⟨by rw [e _ (by omega) (by omega)]; exact b1, fun k h1 h2 => by rw [e _ (by omega) (by omega)]; exact b2 k h1 h2, by rw [e _ (by omega) (by omega)]; omega, by rw [e _ (by omega) (by omega)]; omega, fun k h1 h2 => by rw [e _ (by omega) (by omega)]; exact b5 k h1 h2, by rw [e _ (by omega) (by omega)]; exact b6, by rw [e _ (by omega) (by omega)]; exact b7, fun g hg => ?_⟩
  rw [e _ (by omega) (by omega)] at hg
  exact (b8 g hg).sh hY (fun w h1 h2 => e _ (by omega) (by omega))
theorem SB.mono (hB : SB S Y) (hY : Y ≤ Y') : SB S Y' := hB.c hY (fun _ _ _ => rfl)
theorem SB.one (hB : SB S Y) (hY : Y ≤ Y') (hg : g < gm S) (hG : GB S' g Y') (e : ∀ a : Int, (a < 38 * (g : Int) ∨ 38 * (g : Int) + 38 ≤ a) → S' a = S a) : SB S' Y' := by
  have hm := hB.m
  obtain ⟨b1, b2, b3, b4, b5, b6, b7, b8⟩ := hB
  have e' : ∀ a : Int, 228 ≤ a → S' a = S a := fun a h => e a (by omega)
  refine ⟨by rw [e' _ (by omega)]; exact b1, fun k h1 h2 => by rw [e' _ (by omega)]; exact b2 k h1 h2, by rw [e' _ (by omega)]; omega, by rw [e' _ (by omega)]; omega, fun k h1 h2 => by rw [e' _ (by omega)]; exact b5 k h1 h2, by rw [e' _ (by omega)]; exact b6, by rw [e' _ (by omega)]; exact b7, fun h hh => ?_⟩
  rw [e' _ (by omega)] at hh
  by_cases c : h = g
  · rw [c]; exact hG
  · exact (b8 h hh).sh hY (fun w h1 h2 => e _ (by omega))
theorem SB.seal (hB : SB S Y) (hg : g < gm S) : SB (sealS S g) (Y + 1) := by
  have hm := hB.m
  have hB1 : SB (upI S 234 (S 234 + 1)) (Y + 1) := hB.up (by omega) (Or.inr (Or.inl ⟨Or.inr rfl, by have := hB.2.2.2.1; omega⟩))
  have h4 := hB.2.2.2.1
  have hgm : gm (upI S 234 (S 234 + 1)) = gm S := by
    show Int.toNat _ = _
    rw [upI_n _ _ (by omega)]
    rfl
  have hG := hB1.g (g := g) (by omega)
  have l4 : upI S 234 (S 234 + 1) (38 * (g : Int) + 4) = S (38 * (g : Int) + 4) := upI_n _ _ (by omega)
  have ed : sealS S g = upI (upI (upI S 234 (S 234 + 1)) (38 * (g : Int) + 5) (S 234 + 1)) (38 * (g : Int) + 6) (S (38 * (g : Int) + 4)) := rfl
  rw [ed]
  obtain ⟨T, hT⟩ : ∃ T, T = upI S 234 (S 234 + 1) := ⟨_, rfl⟩
  rw [← hT] at hG hB1 hgm l4 ⊢
  refine hB1.one (by omega) (g := g) (by omega) ?_ (fun a ha => by rw [upI_n _ _ (by omega), upI_n _ _ (by omega)])
  obtain ⟨U, hU⟩ : ∃ U, U = upI (upI T (38 * (g : Int) + 5) (S 234 + 1)) (38 * (g : Int) + 6) (S (38 * (g : Int) + 4)) := ⟨_, rfl⟩
  have lo : ∀ w : Int, w ≠ 5 → w ≠ 6 → U (38 * (g : Int) + w) = T (38 * (g : Int) + w) := fun w h1 h2 => by rw [hU, upI_n _ _ (by omega), upI_n _ _ (by omega)]
  have u5 : U (38 * (g : Int) + 5) = S 234 + 1 := by rw [hU, upI_n _ _ (by omega), upI_s]
  have u6 : U (38 * (g : Int) + 6) = T (38 * (g : Int) + 4) := by rw [hU, upI_s, l4]
  rw [← hU]
  obtain ⟨p1, p2⟩ := pts_sh (S := T) (S' := U) (g := g) (h := g) (fun w h1 h2 => lo w (by omega) (by omega))
  obtain ⟨a1, a2, a3, a4, a5, a6, a7, a8, a9, a10, a11⟩ := hG
  have hn := a9.1
  unfold GB
  rw [lo 0 (by omega) (by omega), lo 1 (by omega) (by omega), lo 2 (by omega) (by omega), lo 3 (by omega) (by omega), lo 4 (by omega) (by omega), u5, u6, lo 7 (by omega) (by omega), p1]
  exact ⟨a1, a2, a3, by omega, a5, by omega, by omega, a8, a9.c p2, a10.c (fun k hk => (p2 k (by omega)).1), fun k hk => by rw [(p2 k (by omega)).2.2]; exact a11 k hk⟩
theorem SB.make (hB : SB S Y) (hm : gm S < 6) {a b c : Int} (ha : -50 ≤ a ∧ a ≤ 50) (hb : -50 ≤ b ∧ b ≤ 50) (hc : 0 ≤ c ∧ c ≤ 3) : SB (makeS S a b c) Y := by
  have hmm := hB.m
  obtain ⟨e1, e2⟩ := makeS_gm S a b c hmm.1
  obtain ⟨b1, b2, b3, b4, b5, b6, b7, b8⟩ := hB
  have hi : ∀ i : Int, 229 ≤ i → makeS S a b c i = S i := fun i h => makeS_lo _ _ _ _ (by omega) (by omega)
  refine ⟨by rw [e1]; omega, fun k h1 h2 => by rw [hi _ (by omega)]; exact b2 k h1 h2, by rw [hi _ (by omega)]; omega, by rw [hi _ (by omega)]; omega, fun k h1 h2 => by rw [hi _ (by omega)]; exact b5 k h1 h2, by rw [hi _ (by omega)]; exact b6, by rw [hi _ (by omega)]; exact b7, fun h hh => ?_⟩
  rw [e1] at hh
  by_cases e : h = gm S
  · rw [e]
    have mk : ∀ w : Int, 0 ≤ w → w < 38 → makeS S a b c (38 * (gm S : Int) + w) = if w = 0 then a else if w = 1 then b else if w = 2 then c else if w = 5 then -1 else 0 := fun w x y => makeS_new S a b c hm x y
    have m0 : makeS S a b c (38 * (gm S : Int) + 0) = a := (mk 0 (by omega) (by omega)).trans (by simp)
    have m1 : makeS S a b c (38 * (gm S : Int) + 1) = b := (mk 1 (by omega) (by omega)).trans (by simp)
    have m2 : makeS S a b c (38 * (gm S : Int) + 2) = c := (mk 2 (by omega) (by omega)).trans (by simp)
    have m3 : makeS S a b c (38 * (gm S : Int) + 3) = 0 := (mk 3 (by omega) (by omega)).trans (by simp)
    have m4 : makeS S a b c (38 * (gm S : Int) + 4) = 0 := (mk 4 (by omega) (by omega)).trans (by simp)
    have m5 : makeS S a b c (38 * (gm S : Int) + 5) = -1 := (mk 5 (by omega) (by omega)).trans (by simp)
    have m6 : makeS S a b c (38 * (gm S : Int) + 6) = 0 := (mk 6 (by omega) (by omega)).trans (by simp)
    have m7 : makeS S a b c (38 * (gm S : Int) + 7) = 0 := (mk 7 (by omega) (by omega)).trans (by simp)
    have n0 : gn (makeS S a b c) (gm S) = 0 := by
      unfold gn
      rw [m7]
      rfl
    unfold GB
    rw [m0, m1, m2, m3, m4, m5, m6, m7, n0]
    exact ⟨ha, hb, hc, by omega, by omega, by omega, by omega, rfl, ⟨by omega, fun i j hi => by omega, fun i j hi => by omega, fun i j hi => by omega, fun k hk => by omega⟩, fun p hp => by omega, fun k hk => by omega⟩
  · exact (b8 h (by omega)).sh (Nat.le_refl _) (fun w h1 h2 => makeS_lo _ _ _ _ (by omega) (by omega))
theorem SB.brk (hB : SB S Y) (hg : g < gm S) : SB (brkS S g) Y := by
  have hm := hB.m
  obtain ⟨b1, b2, b3, b4, b5, b6, b7, b8⟩ := hB
  have hi : ∀ i : Int, 229 ≤ i → brkS S g i = S i := fun i h => brkS_hi _ _ (by omega) (by omega)
  refine ⟨by rw [brkS_228]; omega, fun k h1 h2 => by rw [hi _ (by omega)]; exact b2 k h1 h2, by rw [hi _ (by omega)]; omega, by rw [hi _ (by omega)]; omega, fun k h1 h2 => by rw [hi _ (by omega)]; exact b5 k h1 h2, by rw [hi _ (by omega)]; exact b6, by rw [hi _ (by omega)]; exact b7, fun h hh => ?_⟩
  rw [brkS_228] at hh
  by_cases c : g ≤ h
  · exact (b8 (h + 1) (by omega)).sh (Nat.le_refl _) (fun w h1 h2 => by rw [brkS_sh _ _ (by omega) (by omega)]; congr 1; omega)
  · exact (b8 h (by omega)).sh (Nat.le_refl _) (fun w h1 h2 => brkS_lo _ _ (by omega) (by omega))
theorem SB.meas (hB : SB S Y) (hY : Y ≤ 1000000) (hg : g < gm S) (h1 : -400 ≤ z) (h2 : z ≤ 1500) (h0 : hnd S g z = 0) : SB (measS S g z) Y :=
  hB.one (Nat.le_refl _) hg (GB.meas hB hY (hB.g hg) h1 h2 h0) (fun a h => measS_lo (hB.g hg) h0 (by omega))
theorem SB.drop (hB : SB S Y) (hg : g < gm S) (z : Int) : SB (dropS S g z) Y :=
  hB.one (Nat.le_refl _) hg ((hB.g hg).drop z) (fun a h => dropS_lo (hB.g hg) z (by omega))
theorem SB.stop (hB : SB S Y) {a b : Int} (h1 : -1 ≤ a ∧ a ≤ 60) (h2 : -1 ≤ b ∧ b ≤ 8) : SB (upI (upI S 242 a) 243 b) Y := by
  refine (hB.up (Nat.le_refl _) (a := 242) (v := a) ?_).up (Nat.le_refl _) ?_
  · unfold okv; omega
  · unfold okv; omega
theorem yrS_hi (S : Int → Int) {n : Nat} (hn : n ≤ 6) {a : Int} (h : 228 ≤ a) : yrS S n a = S a := yrS_n S n (fun h hh => by omega)
theorem passS_hi (hB : SB S Y) {a : Int} (h : 234 ≤ a) : ∀ n : Nat, passS S n a = S a
  | 0 => rfl
  | n + 1 => by
    have hm := hB.m
    have e : passS S (n + 1) = upI (yrS (passS S n) (gm S)) 233 (passS S n 233 + 1) := rfl
    rw [e, upI_n _ _ (by omega), yrS_hi _ (by omega) (by omega)]
    exact passS_hi hB h n
theorem sealS_hi (hg : g < 6) {a : Int} (h : 235 ≤ a) : sealS S g a = S a := by
  unfold sealS
  rw [upI_n _ _ (by omega), upI_n _ _ (by omega), upI_n _ _ (by omega)]
end
