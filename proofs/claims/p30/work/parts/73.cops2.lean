/-! the program's changes of its State 0 -/
def WB (S : Int → Int) : Prop := S 228 = (gm S : Int) ∧ gm S ≤ 6 ∧ ∀ h, h < gm S → gn S h ≤ 10
theorem SB.wb {S : Int → Int} {Y : Nat} (hB : SB S Y) : WB S := ⟨hB.m.1, hB.m.2, fun _ hh => (hB.g hh).p.1⟩
/-- nothing but State 0 of the program is changed -/
def Fz (o o1 : OM) : Prop := (∀ k i, ¬ ((i = 0 ∧ 1 ≤ k ∧ k ≤ 4) ∨ (i / 6 = 0 ∧ 5 ≤ k ∧ k ≤ 13)) → o1.1 k i = o.1 k i) ∧ o1.2 = o.2
theorem Fz.rf (o : OM) : Fz o o := ⟨fun _ _ _ => rfl, rfl⟩
theorem Fz.tr {o o1 o2 : OM} (h : Fz o o1) (h' : Fz o1 o2) : Fz o o2 := ⟨fun k i hk => (h'.1 k i hk).trans (h.1 k i hk), h'.2.trans h.2⟩
theorem Fz.wr {o o1 : OM} {k j : Nat} {v : Int32} (h : Fz o o1) (hk : 1 ≤ k ∧ k ≤ 4) : Fz o (wr o1 k 0 j v) := ⟨fun k' i hk' => (wr_ne o1 v (by omega)).trans (h.1 k' i hk'), h.2⟩
theorem Fz.rd {o o1 : OM} {k i j : Nat} (h : Fz o o1) (hk : ¬ ((i = 0 ∧ 1 ≤ k ∧ k ≤ 4) ∨ (i / 6 = 0 ∧ 5 ≤ k ∧ k ≤ 13))) : rd o1 k i j = rd o k i j := congrFun (h.1 k i hk) j
theorem tid_0 (j : Nat) (v : Int32) : tid j v / 6 = j := by unfold tid; omega
theorem Ft.fz {o o1 : OM} {t : Nat} (h : Ft o o1 t) (ht : t / 6 = 0) : Fz o o1 := ⟨fun k i hk => h.1 k i (by intro z; apply hk; rw [z.1]; exact Or.inr ⟨ht, z.2⟩), h.2⟩
theorem CS.fz {o o1 : OM} {j : Nat} {S : Int → Int} (h : CS o j S) (f : Fz o o1) (hj : j ≠ 0) : CS o1 j S := h.fr (fun k a b => f.1 k j (by omega)) (fun k t a b c => f.1 k t (by omega))
theorem PM.c {o o1 : OM} {j : Nat} (h : PM o j) (e : o1.1 4 j = o.1 4 j) : PM o1 j := by
  have e' : ∀ g, rd o1 4 j g = rd o 4 j g := fun g => congrFun e g
  intro g hg
  obtain ⟨v, a, b, c⟩ := h g hg
  exact ⟨v, a, by rw [e']; exact b, fun g' x y => c g' x (by rw [← e', ← e']; exact y)⟩
/-- a thermometer that stands elsewhere in the row -/
theorem pts_sh {S S' : Int → Int} {g h : Nat} (e : ∀ w : Int, 7 ≤ w → w < 38 → S' (38 * (h : Int) + w) = S (38 * (g : Int) + w)) : gn S' h = gn S g ∧ ∀ k, k < 10 → pr S' h k = pr S g k ∧ pd S' h k = pd S g k ∧ py S' h k = py S g k := by
  refine ⟨by unfold gn; rw [e 7 (by omega) (by omega)], fun k hk => ?_⟩
  unfold pr pd py
  rw [Int.add_assoc (38 * (h : Int)), Int.add_assoc (38 * (h : Int)), Int.add_assoc (38 * (g : Int)), Int.add_assoc (38 * (g : Int)), e _ (by omega) (by omega), e _ (by omega) (by omega), e _ (by omega) (by omega)]
  exact ⟨rfl, rfl, rfl⟩
theorem TC.f {m : Nat → Nat → Int32} {S : Int → Int} {g : Nat} (hT : TC m S g) {w : Nat} (hw : w < 7) : m 5 w = I (S (38 * (g : Int) + (w : Int))) := by
  have hc : w = 0 ∨ w = 1 ∨ w = 2 ∨ w = 3 ∨ w = 4 ∨ w = 5 ∨ w = 6 := by omega
  obtain ⟨a1, a2, a3, a4, a5, a6, a7, -⟩ := hT
  rcases hc with rfl | rfl | rfl | rfl | rfl | rfl | rfl
  · exact a1
  · exact a2
  · exact a3
  · exact a4
  · exact a5
  · exact a6
  · exact a7
theorem TC.w {m m' : Nat → Nat → Int32} {S S' : Int → Int} {g h : Nat} (hT : TC m S g) (hn : gn S g ≤ 10) (h5 : ∀ w : Nat, w < 7 → m' 5 w = I (S' (38 * (h : Int) + (w : Int)))) (hk : ∀ k, 6 ≤ k → k ≤ 13 → m' k = m k) (e : ∀ w : Int, 7 ≤ w → w < 38 → S' (38 * (h : Int) + w) = S (38 * (g : Int) + w)) : TC m' S' h := by
  obtain ⟨p1, p2⟩ := pts_sh e
  obtain ⟨-, -, -, -, -, -, -, a8, a9⟩ := hT
  refine ⟨h5 0 (by omega), h5 1 (by omega), h5 2 (by omega), h5 3 (by omega), h5 4 (by omega), h5 5 (by omega), h5 6 (by omega), by rw [hk 6 (by omega) (by omega), p1]; exact a8, ?_⟩
  rw [p1]
  exact (a9.c (fun k x => (p2 k (by omega)).1.symm) (fun k x => (p2 k (by omega)).2.1.symm) (fun k x => (p2 k (by omega)).2.2.symm)).m (fun k j x y _ => by rw [hk k (by omega) y])
theorem TC.sh {m : Nat → Nat → Int32} {S S' : Int → Int} {g h : Nat} (hT : TC m S g) (hn : gn S g ≤ 10) (e : ∀ w : Int, 0 ≤ w → w < 38 → S' (38 * (h : Int) + w) = S (38 * (g : Int) + w)) : TC m S' h :=
  hT.w hn (fun w hw => by rw [e (w : Int) (by omega) (by omega)]; exact hT.f hw) (fun _ _ _ => rfl) (fun w h1 h2 => e w (by omega) h2)
theorem GB.sh {S S' : Int → Int} {g h Y Y' : Nat} (hG : GB S g Y) (hY : Y ≤ Y') (e : ∀ w : Int, 0 ≤ w → w < 38 → S' (38 * (h : Int) + w) = S (38 * (g : Int) + w)) : GB S' h Y' := by
  obtain ⟨p1, p2⟩ := pts_sh (fun w h1 h2 => e w (by omega) h2)
  obtain ⟨a1, a2, a3, a4, a5, a6, a7, a8, a9, a10, a11⟩ := hG
  have hn := a9.1
  unfold GB
  rw [e 0 (by omega) (by omega), e 1 (by omega) (by omega), e 2 (by omega) (by omega), e 3 (by omega) (by omega), e 4 (by omega) (by omega), e 5 (by omega) (by omega), e 6 (by omega) (by omega), e 7 (by omega) (by omega), p1]
  exact ⟨a1, a2, a3, by omega, a5, by omega, a7, a8, a9.c p2, a10.c (fun k hk => (p2 k (by omega)).1), fun k hk => by rw [(p2 k (by omega)).2.2]; have := a11 k hk; omega⟩
/-- one thermometer of State 0 is changed -/
theorem CS.one {o o1 : OM} {S S' : Int → Int} {g : Nat} (hC : CS o 0 S) (hW : WB S) (hP : PM o 0) (hg : g < gm S) (f : Ft o o1 (tid 0 (rd o 4 0 g))) (hT : TC (fun k => o1.1 k (tid 0 (rd o 4 0 g))) S' g) (hS : ∀ a : Int, (a < 38 * (g : Int) ∨ 38 * (g : Int) + 38 ≤ a) → S' a = S a) : CS o1 0 S' := by
  obtain ⟨w1, w2, w3⟩ := hW
  obtain ⟨c1, c2, c3, c4, c5, c6, c7, c8⟩ := hC
  have e4 : ∀ h, rd o1 4 0 h = rd o 4 0 h := fun h => f.rd (by omega)
  have hi : ∀ a : Int, 228 ≤ a → S' a = S a := fun a h => hS a (by omega)
  have egm : gm S' = gm S := by
    show Int.toNat _ = _
    rw [hi 228 (by omega)]
    rfl
  refine ⟨by rw [f.rd (by omega), hi _ (by omega)]; exact c1, by rw [f.rd (by omega), hi _ (by omega)]; exact c2, by rw [f.rd (by omega), hi _ (by omega)]; exact c3, by rw [f.rd (by omega), hi _ (by omega)]; exact c4, by rw [f.rd (by omega), hi _ (by omega)]; exact c5, fun a x y => by rw [f.rd (by omega), hi _ (by omega)]; exact c6 a x y, fun a x y => by rw [f.rd (by omega), hi _ (by omega)]; exact c7 a x y, fun h hh => ?_⟩
  rw [egm] at hh
  rw [e4]
  by_cases e : h = g
  · rw [e]; exact hT
  · have hne := pm_ne hP (g := h) (g' := g) (by omega) (by omega) e
    refine TC.sh (g := h) ?_ (w3 h hh) (fun w h1 h2 => hS _ (by omega))
    exact (c8 h hh).mm (fun k x y => f.1 k _ (by intro z; exact hne z.1))
/-- what lies behind the thermometers is changed -/
theorem CS.hi {o o1 : OM} {S S' : Int → Int} (hC : CS o 0 S) (hW : WB S) (hk : ∀ k t, 4 ≤ k → k ≤ 13 → o1.1 k t = o.1 k t) (hS : ∀ a : Int, a < 229 → S' a = S a) (r0 : rd o1 1 0 0 = I (S' 233)) (r1 : rd o1 1 0 1 = I (S' 234)) (r2 : rd o1 1 0 2 = rd o 1 0 2) (r3 : rd o1 1 0 3 = I (S' 244)) (r4 : rd o1 1 0 4 = I (S' 245)) (rb : ∀ a : Int, 0 ≤ a → a < 4 → rd o1 2 0 (I a).toNatClampNeg = I (S' (229 + a))) (rs : ∀ a : Int, 0 ≤ a → a < 7 → rd o1 3 0 (I a).toNatClampNeg = I (S' (235 + a))) : CS o1 0 S' := by
  obtain ⟨w1, w2, w3⟩ := hW
  obtain ⟨c1, c2, c3, c4, c5, c6, c7, c8⟩ := hC
  have egm : gm S' = gm S := by
    show Int.toNat _ = _
    rw [hS 228 (by omega)]
    rfl
  refine ⟨r0, r1, by rw [r2, hS 228 (by omega)]; exact c3, r3, r4, rb, rs, fun h hh => ?_⟩
  rw [egm] at hh
  have e4 : rd o1 4 0 h = rd o 4 0 h := congrFun (hk 4 0 (by omega) (by omega)) h
  rw [e4]
  refine TC.sh (g := h) ?_ (w3 h hh) (fun w h1 h2 => hS _ (by omega))
  exact (c8 h hh).mm (fun k x y => hk k _ (by omega) y)
theorem CS.s1 {o : OM} {S : Int → Int} (hC : CS o 0 S) (hW : WB S) {j : Nat} {a : Int} (v : Int) (h : (j = 0 ∧ a = 233) ∨ (j = 1 ∧ a = 234) ∨ (j = 3 ∧ a = 244) ∨ (j = 4 ∧ a = 245)) : CS (wr o 1 0 j (I v)) 0 (upI S a v) := by
  have hk : ∀ k t, 4 ≤ k → k ≤ 13 → (wr o 1 0 j (I v)).1 k t = o.1 k t := fun k t x y => wr_ne _ _ (by omega)
  have c := hC
  obtain ⟨c1, c2, c3, c4, c5, c6, c7, c8⟩ := c
  refine hC.hi hW hk (fun a' x => upI_n _ _ (by omega)) ?_ ?_ (rd_wj _ _ (by omega)) ?_ ?_ (fun b x y => ?_) (fun b x y => ?_)
  · by_cases e : j = 0
    · obtain rfl : a = 233 := by omega
      rw [e, rd_wr, upI_s]
    · rw [rd_wj _ _ (by omega), upI_n _ _ (by omega)]; exact c1
  · by_cases e : j = 1
    · obtain rfl : a = 234 := by omega
      rw [e, rd_wr, upI_s]
    · rw [rd_wj _ _ (by omega), upI_n _ _ (by omega)]; exact c2
  · by_cases e : j = 3
    · obtain rfl : a = 244 := by omega
      rw [e, rd_wr, upI_s]
    · rw [rd_wj _ _ (by omega), upI_n _ _ (by omega)]; exact c4
  · by_cases e : j = 4
    · obtain rfl : a = 245 := by omega
      rw [e, rd_wr, upI_s]
    · rw [rd_wj _ _ (by omega), upI_n _ _ (by omega)]; exact c5
  · rw [rd_wk _ _ (by omega), upI_n _ _ (by omega)]; exact c6 b x y
  · rw [rd_wk _ _ (by omega), upI_n _ _ (by omega)]; exact c7 b x y
theorem CS.s2 {o : OM} {S : Int → Int} (hC : CS o 0 S) (hW : WB S) {b : Int} (h1 : 0 ≤ b) (h2 : b < 4) (v : Int) : CS (wr o 2 0 (I b).toNatClampNeg (I v)) 0 (upI S (229 + b) v) := by
  have c := hC
  obtain ⟨c1, c2, c3, c4, c5, c6, c7, c8⟩ := c
  refine hC.hi hW (fun k t x y => wr_ne _ _ (by omega)) (fun a' x => upI_n _ _ (by omega)) (by rw [rd_wk _ _ (by omega), upI_n _ _ (by omega)]; exact c1) (by rw [rd_wk _ _ (by omega), upI_n _ _ (by omega)]; exact c2) (rd_wk _ _ (by omega)) (by rw [rd_wk _ _ (by omega), upI_n _ _ (by omega)]; exact c4) (by rw [rd_wk _ _ (by omega), upI_n _ _ (by omega)]; exact c5) (fun a x y => ?_) (fun a x y => by rw [rd_wk _ _ (by omega), upI_n _ _ (by omega)]; exact c7 a x y)
  by_cases e : a = b
  · rw [e, rd_wr, upI_s]
  · rw [rd_wj _ _ (by rw [I_tc x (by omega), I_tc h1 (by omega)]; omega), upI_n _ _ (by omega)]; exact c6 a x y
theorem CS.s3 {o : OM} {S : Int → Int} (hC : CS o 0 S) (hW : WB S) {b : Int} (h1 : 0 ≤ b) (h2 : b < 7) (v : Int) : CS (wr o 3 0 (I b).toNatClampNeg (I v)) 0 (upI S (235 + b) v) := by
  have c := hC
  obtain ⟨c1, c2, c3, c4, c5, c6, c7, c8⟩ := c
  refine hC.hi hW (fun k t x y => wr_ne _ _ (by omega)) (fun a' x => upI_n _ _ (by omega)) (by rw [rd_wk _ _ (by omega), upI_n _ _ (by omega)]; exact c1) (by rw [rd_wk _ _ (by omega), upI_n _ _ (by omega)]; exact c2) (rd_wk _ _ (by omega)) (by rw [rd_wk _ _ (by omega), upI_n _ _ (by omega)]; exact c4) (by rw [rd_wk _ _ (by omega), upI_n _ _ (by omega)]; exact c5) (fun a x y => by rw [rd_wk _ _ (by omega), upI_n _ _ (by omega)]; exact c6 a x y) (fun a x y => ?_)
  by_cases e : a = b
  · rw [e, rd_wr, upI_s]
  · rw [rd_wj _ _ (by rw [I_tc x (by omega), I_tc h1 (by omega)]; omega), upI_n _ _ (by omega)]; exact c7 a x y
theorem CS.c {o : OM} {S S' : Int → Int} (hC : CS o 0 S) (hW : WB S) (e : ∀ a : Int, 0 ≤ a → a < 246 → a ≠ 242 → a ≠ 243 → S' a = S a) : CS o 0 S' := by
  obtain ⟨w1, w2, w3⟩ := hW
  obtain ⟨c1, c2, c3, c4, c5, c6, c7, c8⟩ := hC
  have egm : gm S' = gm S := by
    show Int.toNat _ = _
    rw [e 228 (by omega) (by omega) (by omega) (by omega)]
    rfl
  refine ⟨by rw [e _ (by omega) (by omega) (by omega) (by omega)]; exact c1, by rw [e _ (by omega) (by omega) (by omega) (by omega)]; exact c2, by rw [e _ (by omega) (by omega) (by omega) (by omega)]; exact c3, by rw [e _ (by omega) (by omega) (by omega) (by omega)]; exact c4, by rw [e _ (by omega) (by omega) (by omega) (by omega)]; exact c5, fun a x y => by rw [e _ (by omega) (by omega) (by omega) (by omega)]; exact c6 a x y, fun a x y => by rw [e _ (by omega) (by omega) (by omega) (by omega)]; exact c7 a x y, fun h hh => ?_⟩
  rw [egm] at hh
  exact TC.sh (g := h) (c8 h hh) (w3 h hh) (fun w h1 h2 => e _ (by omega) (by omega) (by omega) (by omega))
