/-! years -/
theorem yrS_n (S : Int → Int) : ∀ (n : Nat) {b : Int}, (∀ h : Nat, h < n → b ≠ 38 * (h : Int) + 3 ∧ b ≠ 38 * (h : Int) + 4) → yrS S n b = S b
  | 0, _, _ => rfl
  | n + 1, b, hb => by
    show growS (yrS S n) n b = _
    unfold growS
    rw [upI_n _ _ (hb n (by omega)).1, upI_n _ _ (hb n (by omega)).2]
    exact yrS_n S n (fun h hh => hb h (by omega))
theorem yrS_g (S : Int → Int) {h : Nat} (hh6 : h < 6) (hb : 0 ≤ S (38 * (h : Int) + 2) ∧ S (38 * (h : Int) + 2) ≤ 3) : ∀ (n : Nat), n ≤ 6 → h < n → yrS S n (38 * (h : Int) + 4) = S (38 * (h : Int) + 4) + S (235 + S (38 * (h : Int) + 2)) / (S (38 * (h : Int) + 3) + 1) ∧ yrS S n (38 * (h : Int) + 3) = S (38 * (h : Int) + 3) + 1
  | 0, _, h0 => by omega
  | n + 1, hn6, hn => by
    have e : yrS S (n + 1) = growS (yrS S n) n := rfl
    rw [e]
    unfold growS
    by_cases hc : h = n
    · subst hc
      have a2 := yrS_n S h (b := 38 * (h : Int) + 2) (fun k hk => by omega)
      have a3 := yrS_n S h (b := 38 * (h : Int) + 3) (fun k hk => by omega)
      have a4 := yrS_n S h (b := 38 * (h : Int) + 4) (fun k hk => by omega)
      have a5 := yrS_n S h (b := 235 + S (38 * (h : Int) + 2)) (fun k hk => by omega)
      rw [upI_n _ _ (by omega), upI_s, upI_s, a2, a3, a4, a5]
      exact ⟨rfl, rfl⟩
    · rw [upI_n _ _ (by omega), upI_n _ _ (by omega), upI_n _ _ (by omega), upI_n _ _ (by omega)]
      exact yrS_g S hh6 hb n (by omega) (by omega)
def passS (S : Int → Int) : Nat → Int → Int
  | 0 => S
  | k + 1 => upI (yrS (passS S k) (gm S)) 233 (passS S k 233 + 1)
theorem gn_c {S S' : Int → Int} {g : Nat} (h : S' (38 * (g : Int) + 7) = S (38 * (g : Int) + 7)) : gn S' g = gn S g := by unfold gn; rw [h]
/-- points of a thermometer that are the same -/
theorem pts_c {S S' : Int → Int} {g : Nat} (h : ∀ a : Int, 38 * (g : Int) + 7 ≤ a → a < 38 * (g : Int) + 38 → S' a = S a) : gn S' g = gn S g ∧ ∀ k, k < 10 → pr S' g k = pr S g k ∧ pd S' g k = pd S g k ∧ py S' g k = py S g k := by
  refine ⟨gn_c (h _ (by omega) (by omega)), fun k hk => ?_⟩
  unfold pr pd py
  exact ⟨h _ (by omega) (by omega), h _ (by omega) (by omega), h _ (by omega) (by omega)⟩
theorem PB.c {n : Nat} {r d y r' d' y' : Nat → Int} (h : PB n r d y) (e : ∀ k, k < 10 → r' k = r k ∧ d' k = d k ∧ y' k = y k) : PB n r' d' y' := by
  obtain ⟨h1, h2, h3, h4, h5⟩ := h
  refine ⟨h1, fun i j hi hj g => h2 i j hi hj (by rw [← (e i (by omega)).1, ← (e j (by omega)).1]; exact g), fun i j hi hj g => h3 i j hi hj (by rw [← (e i (by omega)).2.1, ← (e j (by omega)).2.1]; exact g), fun i j hi hj => by rw [(e i (by omega)).1, (e j (by omega)).1, (e i (by omega)).2.1, (e j (by omega)).2.1]; exact h4 i j hi hj, fun k hk => by rw [(e k (by omega)).1, (e k (by omega)).2.1, (e k (by omega)).2.2]; exact h5 k hk⟩
theorem Sj.c {n : Nat} {r r' : Nat → Int} (h : Sj r n) (e : ∀ k, k < n → r' k = r k) : Sj r' n := fun p hp => by
  obtain ⟨j, h1, h2⟩ := h p hp
  exact ⟨j, h1, by rw [rank_c h1 e]; exact h2⟩
/-- bounds of a thermometer that is the same -/
theorem GB.c {S S' : Int → Int} {g Y Y' : Nat} (hG : GB S g Y) (hY : Y ≤ Y') (h : ∀ a : Int, 38 * (g : Int) ≤ a → a < 38 * (g : Int) + 38 → S' a = S a) : GB S' g Y' := by
  obtain ⟨p1, p2⟩ := pts_c (S := S) (S' := S') (g := g) (fun a h1 h2 => h a (by omega) h2)
  obtain ⟨a1, a2, a3, a4, a5, a6, a7, a8, a9, a10, a11⟩ := hG
  have hn := a9.1
  unfold GB
  rw [h _ (by omega) (by omega), h _ (by omega) (by omega), h _ (by omega) (by omega), h _ (by omega) (by omega), h _ (by omega) (by omega), h _ (by omega) (by omega), h _ (by omega) (by omega), h _ (by omega) (by omega), p1]
  exact ⟨a1, a2, a3, by omega, a5, by omega, a7, a8, a9.c p2, a10.c (fun k hk => (p2 k (by omega)).1), fun k hk => by rw [(p2 k (by omega)).2.2]; have := a11 k hk; omega⟩
theorem TC.c {m : Nat → Nat → Int32} {S S' : Int → Int} {g Y : Nat} (hT : TC m S g) (hG : GB S g Y) (h : ∀ a : Int, 38 * (g : Int) ≤ a → a < 38 * (g : Int) + 38 → S' a = S a) : TC m S' g := by
  obtain ⟨p1, p2⟩ := pts_c (S := S) (S' := S') (g := g) (fun a h1 h2 => h a (by omega) h2)
  have hn := hG.p.1
  unfold TC at hT ⊢
  rw [h _ (by omega) (by omega), h _ (by omega) (by omega), h _ (by omega) (by omega), h _ (by omega) (by omega), h _ (by omega) (by omega), h _ (by omega) (by omega), h _ (by omega) (by omega), p1]
  obtain ⟨a1, a2, a3, a4, a5, a6, a7, a8, a9⟩ := hT
  exact ⟨a1, a2, a3, a4, a5, a6, a7, a8, a9.c (fun k hk => (p2 k (by omega)).1.symm) (fun k hk => (p2 k (by omega)).2.1.symm) (fun k hk => (p2 k (by omega)).2.2.symm)⟩
theorem SB.year {S : Int → Int} {Y : Nat} (hB : SB S Y) : SB (upI (yrS S (gm S)) 233 (S 233 + 1)) (Y + 1) ∧ gm (upI (yrS S (gm S)) 233 (S 233 + 1)) = gm S := by
  have hm := hB.m
  have hB' := hB
  obtain ⟨b1, b2, b3, b4, b5, b6, b7, b8⟩ := hB
  have hhi : ∀ b : Int, 228 ≤ b → b ≠ 233 → upI (yrS S (gm S)) 233 (S 233 + 1) b = S b := fun b h1 h2 => by
    rw [upI_n _ _ h2, yrS_n S (gm S) (fun h hh => by omega)]
  have e228 := hhi 228 (by omega) (by omega)
  have egm : gm (upI (yrS S (gm S)) 233 (S 233 + 1)) = gm S := by
    show Int.toNat _ = _
    rw [e228]
    rfl
  refine ⟨⟨by rw [e228]; exact b1, fun k h1 h2 => by rw [hhi _ (by omega) (by omega)]; exact b2 k h1 h2, by rw [upI_s]; omega, by rw [hhi _ (by omega) (by omega)]; omega, fun k h1 h2 => by rw [hhi _ (by omega) (by omega)]; exact b5 k h1 h2, by rw [hhi _ (by omega) (by omega)]; exact b6, by rw [hhi _ (by omega) (by omega)]; exact b7, fun g hg => ?_⟩, egm⟩
  rw [e228] at hg
  have hgm : g < gm S := by omega
  have hG := hB'.g hgm
  have hgr := grow_rg hB' hG
  obtain ⟨y4, y3⟩ := yrS_g S (h := g) (by omega) hG.2.2.1 (gm S) hm.2 hgm
  have hlo : ∀ b : Int, 38 * (g : Int) ≤ b → b < 38 * (g : Int) + 38 → b ≠ 38 * (g : Int) + 3 → b ≠ 38 * (g : Int) + 4 → upI (yrS S (gm S)) 233 (S 233 + 1) b = S b := fun b h1 h2 h3 h4 => by
    rw [upI_n _ _ (by omega), yrS_n S (gm S) (fun h hh => by omega)]
  obtain ⟨p1, p2⟩ := pts_c (S := S) (S' := upI (yrS S (gm S)) 233 (S 233 + 1)) (g := g) (fun a h1 h2 => hlo a (by omega) h2 (by omega) (by omega))
  obtain ⟨a1, a2, a3, a4, a5, a6, a7, a8, a9, a10, a11⟩ := hG
  have hn := a9.1
  unfold GB
  rw [hlo (38 * (g : Int) + 0) (by omega) (by omega) (by omega) (by omega), hlo (38 * (g : Int) + 1) (by omega) (by omega) (by omega) (by omega), hlo (38 * (g : Int) + 2) (by omega) (by omega) (by omega) (by omega), hlo (38 * (g : Int) + 5) (by omega) (by omega) (by omega) (by omega), hlo (38 * (g : Int) + 6) (by omega) (by omega) (by omega) (by omega), hlo (38 * (g : Int) + 7) (by omega) (by omega) (by omega) (by omega), p1, upI_n (b := 38 * (g : Int) + 3) _ _ (by omega), upI_n (b := 38 * (g : Int) + 4) _ _ (by omega), y3, y4]
  refine ⟨a1, a2, a3, by omega, ⟨by omega, ?_, by omega⟩, by omega, by omega, a8, a9.c p2, a10.c (fun k hk => (p2 k (by omega)).1), fun k hk => by rw [(p2 k (by omega)).2.2]; have := a11 k hk; omega⟩
  by_cases hage : S (38 * (g : Int) + 3) ≤ 59
  · omega
  · have : S (235 + S (38 * (g : Int) + 2)) / (S (38 * (g : Int) + 3) + 1) = 0 := Int.ediv_eq_zero_of_lt (by omega) (by omega)
    omega
theorem SB.pass {S : Int → Int} {Y : Nat} (hB : SB S Y) : ∀ k : Nat, SB (passS S k) (Y + k) ∧ gm (passS S k) = gm S ∧ passS S k 233 = S 233 + (k : Int)
  | 0 => ⟨hB, rfl, by show S 233 = S 233 + 0; omega⟩
  | k + 1 => by
    obtain ⟨h1, h2, h3⟩ := SB.pass hB k
    have h4 := h1.year
    rw [h2] at h4
    refine ⟨h4.1, h4.2, ?_⟩
    show upI _ 233 (passS S k 233 + 1) 233 = _
    rw [upI_s, h3]
    show S 233 + (k : Int) + 1 = S 233 + ((k : Int) + 1)
    omega
section
variable {o : OM} {S : Int → Int} {Y : Nat}
end
