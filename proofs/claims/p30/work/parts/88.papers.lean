/-! papers -/
theorem frs_sp (p : Nat → Bool) : ∀ f i, (frs p f i = -1 ∧ ∀ j, i ≤ j → j < i + f → ¬ p j = true) ∨ ∃ v : Nat, i ≤ v ∧ v < i + f ∧ frs p f i = (v : Int) ∧ p v = true ∧ ∀ j, i ≤ j → j < v → ¬ p j = true
  | 0, i => Or.inl ⟨rfl, fun j h1 h2 => by omega⟩
  | f + 1, i => by
    have e : frs p (f + 1) i = if p i = true then (i : Int) else frs p f (i + 1) := rfl
    rw [e]
    by_cases c : p i = true
    · rw [if_pos c]
      exact Or.inr ⟨i, Nat.le_refl _, by omega, rfl, c, fun j h1 h2 => by omega⟩
    · rw [if_neg c]
      rcases frs_sp p f (i + 1) with ⟨h1, h2⟩ | ⟨v, h1, h2, h3, h4, h5⟩
      · refine Or.inl ⟨h1, fun j a b => ?_⟩
        by_cases q : j = i
        · rw [q]; exact c
        · exact h2 j (by omega) (by omega)
      · refine Or.inr ⟨v, by omega, by omega, h3, h4, fun j a b => ?_⟩
        by_cases q : j = i
        · rw [q]; exact c
        · exact h5 j (by omega) b
section
variable {S : Int → Int} {g Y : Nat}
theorem pass_g (hB : SB S Y) (hg : g < gm S) : ∀ n : Nat, passS S n (38 * (g : Int) + 3) = S (38 * (g : Int) + 3) + (n : Int) ∧ passS S n (38 * (g : Int) + 4) - S (38 * (g : Int) + 6) = snc S g n ∧ ∀ a : Int, 38 * (g : Int) ≤ a → a < 38 * (g : Int) + 38 → a ≠ 38 * (g : Int) + 3 → a ≠ 38 * (g : Int) + 4 → passS S n a = S a
  | 0 => ⟨by show S _ = _; omega, rfl, fun a _ _ _ _ => rfl⟩
  | n + 1 => by
    have hm := hB.m
    obtain ⟨i1, i2, i3⟩ := pass_g hB hg n
    obtain ⟨b1, b2, b3⟩ := hB.pass n
    have hhi := fun {a : Int} (h : 234 ≤ a) => passS_hi hB h n
    have b := (hB.g hg).2.2.1
    have e2 := i3 (38 * (g : Int) + 2) (by omega) (by omega) (by omega) (by omega)
    obtain ⟨y4, y3⟩ := yrS_g (passS S n) (h := g) (by omega) (by rw [e2]; exact b) (gm S) (by omega) hg
    have u : passS S (n + 1) = upI (yrS (passS S n) (gm S)) 233 (passS S n 233 + 1) := rfl
    rw [u]
    refine ⟨?_, ?_, fun a h1 h2 h3 h4 => ?_⟩
    · rw [upI_n _ _ (by omega), y3, i1]
      omega
    · rw [upI_n _ _ (by omega), y4, e2, i1, hhi (a := 235 + S (38 * (g : Int) + 2)) (by omega)]
      show _ = snc S g n + S (235 + S (38 * (g : Int) + 2)) / (S (38 * (g : Int) + 3) + (n : Int) + 1)
      omega
    · rw [upI_n _ _ (by omega), yrS_n _ _ (fun h hh => by omega)]
      exact i3 a h1 h2 h3 h4
theorem snc_pass (hB : SB S Y) (hg : g < gm S) (n : Nat) : ∀ m : Nat, snc (passS S n) g m = snc S g (n + m)
  | 0 => by
    obtain ⟨i1, i2, i3⟩ := pass_g hB hg n
    show passS S n (38 * (g : Int) + 4) - passS S n (38 * (g : Int) + 6) = _
    rw [i3 (38 * (g : Int) + 6) (by omega) (by omega) (by omega) (by omega)]
    exact i2
  | m + 1 => by
    have hm := hB.m
    obtain ⟨i1, i2, i3⟩ := pass_g hB hg n
    have b := (hB.g hg).2.2.1
    have e : snc (passS S n) g (m + 1) = snc (passS S n) g m + passS S n (235 + passS S n (38 * (g : Int) + 2)) / (passS S n (38 * (g : Int) + 3) + (m : Int) + 1) := rfl
    have e' : snc S g (n + (m + 1)) = snc S g (n + m) + S (235 + S (38 * (g : Int) + 2)) / (S (38 * (g : Int) + 3) + ((n + m : Nat) : Int) + 1) := rfl
    rw [e, e', snc_pass hB hg n m, i3 (38 * (g : Int) + 2) (by omega) (by omega) (by omega) (by omega), i1, passS_hi hB (by omega) n, show S (38 * (g : Int) + 3) + (n : Int) + (m : Int) + 1 = S (38 * (g : Int) + 3) + ((n + m : Nat) : Int) + 1 from by omega]
theorem val_snc (S : Int → Int) (g : Nat) : val S g = if ¬ S (38 * (g : Int) + 5) = -1 ∧ ¬ S 241 < snc S g 0 then 1 else 0 := rfl
theorem vdf_y (h : ¬ S (38 * (g : Int) + 5) = -1) : (vdf S g = -1 ∧ ∀ j, j < 51 → ¬ S 241 < snc S g j) ∨ ∃ v : Nat, v < 51 ∧ vdf S g = (v : Int) ∧ S 241 < snc S g v ∧ ∀ j, j < v → ¬ S 241 < snc S g j := by
  have e : vdf S g = frs (fun n => decide (S 241 < snc S g n)) 51 0 := if_neg h
  rw [e]
  rcases frs_sp (fun n => decide (S 241 < snc S g n)) 51 0 with ⟨h1, h2⟩ | ⟨v, h1, h2, h3, h4, h5⟩
  · exact Or.inl ⟨h1, fun j hj z => h2 j (by omega) (by omega) (decide_eq_true z)⟩
  · exact Or.inr ⟨v, by omega, h3, of_decide_eq_true h4, fun j hj z => h5 j (by omega) hj (decide_eq_true z)⟩
theorem vdf_u (h : ¬ S (38 * (g : Int) + 5) = -1) {v : Nat} (hv : v < 51) (h1 : S 241 < snc S g v) (h2 : ∀ j, j < v → ¬ S 241 < snc S g j) : vdf S g = (v : Int) := by
  rcases vdf_y h with ⟨-, a⟩ | ⟨u, u1, u2, u3, u4⟩
  · exact absurd h1 (a v hv)
  · rcases Nat.lt_trichotomy u v with l | l | l
    · exact absurd u3 (h2 u l)
    · rw [u2, l]
    · exact absurd h1 (u4 v l)
/-- after n years, where it is void in v -/
theorem void_pass (hB : SB S Y) (hg : g < gm S) {v n : Nat} (hs : ¬ S (38 * (g : Int) + 5) = -1) (hv : v < 51) (h1 : S 241 < snc S g v) (h2 : ∀ j, j < v → ¬ S 241 < snc S g j) (hn : n ≤ v) : vdf (passS S n) g = ((v - n : Nat) : Int) ∧ val (passS S n) g = if n = v then 0 else 1 := by
  have hm := hB.m
  obtain ⟨i1, i2, i3⟩ := pass_g hB hg n
  have s5 := i3 (38 * (g : Int) + 5) (by omega) (by omega) (by omega) (by omega)
  have s241 := passS_hi hB (a := 241) (by omega) n
  have hs' : ¬ passS S n (38 * (g : Int) + 5) = -1 := by rw [s5]; exact hs
  constructor
  · refine vdf_u hs' (by omega) ?_ (fun j hj => ?_)
    · rw [snc_pass hB hg, s241, show n + (v - n) = v from by omega]
      exact h1
    · rw [snc_pass hB hg, s241]
      exact h2 (n + j) (by omega)
  · rw [val_snc, snc_pass hB hg, s241, Nat.add_zero]
    by_cases c : n = v
    · rw [if_pos c, if_neg (fun z => z.2 (by rw [c]; exact h1))]
    · rw [if_neg c, if_pos ⟨hs', h2 n (by omega)⟩]
theorem ref_seal (hB : SB S Y) (hg : g < gm S) (h0 : ref S g = 0) : val (sealS S g) g = 1 ∧ ref (sealS S g) g = 5 := by
  have hm := hB.m
  have q4 := hB.2.2.2.1
  have q241 := hB.2.2.2.2.1 6 (by omega) (by omega)
  obtain ⟨s1, s2, s3, s4⟩ := sealS_at S (g := g) (by omega)
  have v1 : val (sealS S g) g = 1 := by
    unfold val
    rw [s2, s3, s4 (38 * (g : Int) + 4) (by omega) (by omega) (by omega), s4 241 (by omega) (by omega) (by omega), if_pos]
    have e : (235 : Int) + 6 = 241 := rfl
    rw [e] at q241
    omega
  refine ⟨v1, ?_⟩
  obtain ⟨p1, p2⟩ := pts_c (S := S) (S' := sealS S g) (g := g) (fun a x y => s4 a (by omega) (by omega) (by omega))
  have hn := (hB.g hg).p.1
  have ix : ∀ z : Int, ixf (pd (sealS S g) g) z (gn S g) = ixf (pd S g) z (gn S g) := fun z => by
    have h : ∀ m, m ≤ gn S g → ixf (pd (sealS S g) g) z m = ixf (pd S g) z m := by
      intro m
      induction m with
      | zero => intro _; rfl
      | succ m ih =>
        intro hm'
        show (if pd (sealS S g) g m = z then (m : Int) else ixf (pd (sealS S g) g) z m) = if pd S g m = z then (m : Int) else ixf (pd S g) z m
        rw [ih (by omega), (p2 m (by omega)).2.1]
    exact h _ (Nat.le_refl _)
  unfold ref at h0 ⊢
  rw [p1, ix, ix, v1]
  by_cases c1 : ixf (pd S g) 0 (gn S g) = -1 ∨ ixf (pd S g) 1000 (gn S g) = -1
  · rw [if_pos c1] at h0
    omega
  · rw [if_neg c1] at h0 ⊢
    have od : ∀ z : Int, ixf (pd S g) z (gn S g) ≠ -1 → oldf (sealS S g) g z = oldf S g z := fun z hz => by
      have r := ixf_rg (pd S g) z (gn S g)
      unfold oldf
      rw [p1, ix, (p2 _ (by omega)).2.2, s4 239 (by omega) (by omega) (by omega), s4 233 (by omega) (by omega) (by omega)]
    rw [od 0 (fun z => c1 (Or.inl z)), od 1000 (fun z => c1 (Or.inr z))]
    by_cases c2 : oldf S g 0 = 1 ∨ oldf S g 1000 = 1
    · rw [if_pos c2] at h0
      omega
    · rw [if_neg c2, if_pos rfl]
theorem ref_of (S : Int → Int) (g : Nat) : (ref S g = 0 ∨ ref S g = 3 ∨ ref S g = 4 ∨ ref S g = 5 ∨ ref S g = 6) ∧ (ref S g = 5 → val S g = 1) ∧ (val S g = 1 → ref S g ≠ 0) := by
  unfold ref
  split
  · omega
  · split
    · omega
    · split
      · rename_i h
        omega
      · rename_i h
        split
        · omega
        · omega
theorem bd_p {κ β : Type} {k0 : κ} {K : κ → β} (R : β → Prop) (P : κ → Prop) (h1 : P k0) (h2 : ∀ k, P k → R (K k)) : R (bd k0 K) := h2 k0 h1
def Fin1 (S : Int → Int) (Y : Nat) (x : Option (Int32 × OM)) : Prop := ∃ o1 q1, x = some (I 1, o1) ∧ RP o1 S q1 ∧ RB S q1 Y
theorem ch6_e (o : OM) (a b : Int32) : F_L_changes o (I 6) a b = bn (F_X5_paper o a) (fun q o1 => grd (okc [3, 1, 2] q.1) (some (wc q.1, wo q o1))) := by
  unfold F_L_changes Fc_L_changes
  rw [if_neg (by decide), if_neg (by decide), if_neg (by decide), if_neg (by decide), if_neg (by decide), if_neg (by decide)]
variable {o : OM} {q : Qt}
theorem ch6_s (hP : RP o S q) (hb : RB S q Y) (hY : Y ≤ 700000) (hg : g < gm S) : ∃ (t : Int) (o1 : OM), F_L_changes o (I 6) (I (g : Int)) (I 0) = some (I t, o1) ∧ ((ref S g = 0 ∧ t = 0 ∧ RP o1 (sealS S g) (pushQ q S) ∧ RB (sealS S g) (pushQ q S) (Y + 1200) ∧ rd o1 24 0 0 = I (S 234 + 1)) ∨ (ref S g ≠ 0 ∧ t = 3 ∧ RP o1 S q ∧ RB S q (Y + 1200))) := by
  rw [ch6_e]
  by_cases c : ref S g = 0
  · obtain ⟨o1, e1, r1, b1, v1⟩ := al_run (cs := [3, 1, 2]) rfl (c_paper_y hb.1 hY hg c) o q hP hb
    exact ⟨0, o1, e1, Or.inl ⟨c, rfl, r1, b1, v1 rfl⟩⟩
  · obtain ⟨o1, e1, r1, b1, -⟩ := al_run (cs := [3, 1, 2]) rfl (c_paper_n hb.1 hY hg c) o q hP hb
    exact ⟨3, o1, e1, Or.inr ⟨c, rfl, r1, b1⟩⟩
theorem run_pass (hP : RP o S q) (hb : RB S q Y) (hY : Y ≤ 700000) {n : Nat} (h1 : 1 ≤ n) (h2 : n ≤ 20) : ∃ o1, F_X5_pass o (I (n : Int)) = some ((0, I (S 233 + (n : Int))), o1) ∧ RP o1 (passS S n) (pushQ q S) ∧ RB (passS S n) (pushQ q S) (Y + 1200) := by
  obtain ⟨o1, e1, -, r1, b1⟩ := c_pass hb.1 hY h1 h2 o q hP hb
  exact ⟨o1, e1, r1, b1⟩
end
