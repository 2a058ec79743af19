/-! the text, read by the model -/
def tkp (B : Nat → Int) (L : Nat) (lo hi : Int) (p : Nat) (w : Int) : Nat × Int × Int := if w = 0 ∧ p < L ∧ lo ≤ B p ∧ B p ≤ hi then (p + 1, 0, B p - lo) else (p, 1, 0)
def nlp (B : Nat → Int) (L : Nat) (most w : Int) : Nat → Nat → Int → Nat × Int
  | 0, p, v => (p, v)
  | n + 1, p, v => if 0 < v ∧ w = 0 ∧ p < L ∧ 48 ≤ B p ∧ B p ≤ 57 ∧ 10 * v + B p - 48 ≤ most then nlp B L most w n (p + 1) (10 * v + B p - 48) else (p, v)
def nmr (B : Nat → Int) (L : Nat) (least most : Int) (t : Nat × Int × Int) : Nat × Int × Int := ((nlp B L most t.2.1 (L - t.1) t.1 (least + t.2.2)).1, t.2.1, (nlp B L most t.2.1 (L - t.1) t.1 (least + t.2.2)).2)
def nmp (B : Nat → Int) (L : Nat) (least most : Int) (p : Nat) (w : Int) : Nat × Int × Int := nmr B L least most (tkp B L (48 + least) 57 p w)
def ngt (t : Nat × Int × Int) : Nat × Int × Int := (t.1, t.2.1, -t.2.2)
def sgp (B : Nat → Int) (L : Nat) (low most : Int) (p : Nat) (w : Int) : Nat × Int × Int := if w = 0 ∧ p < L ∧ 45 ≤ B p ∧ B p ≤ 45 then ngt (nmp B L 1 low (p + 1) w) else nmp B L 0 most p w
def BB (L : Nat) (B : Nat → Int) : Prop := L ≤ 60 ∧ ∀ k, k < L → 33 ≤ B k ∧ B k ≤ 126
section
variable {B : Nat → Int} {L p : Nat} {w : Int}
theorem tkp_y {lo hi : Int} (h : w = 0 ∧ p < L ∧ lo ≤ B p ∧ B p ≤ hi) : tkp B L lo hi p w = (p + 1, 0, B p - lo) := if_pos h
theorem tkp_n {lo hi : Int} (h : ¬ (w = 0 ∧ p < L ∧ lo ≤ B p ∧ B p ≤ hi)) : tkp B L lo hi p w = (p, 1, 0) := if_neg h
/-- what a reading gives: where it ends, whether it is wrong -/
def Rd (L p : Nat) (w : Int) (t : Nat × Int × Int) : Prop := p ≤ t.1 ∧ t.1 ≤ L ∧ (t.2.1 = 0 ∨ t.2.1 = 1) ∧ (w ≠ 0 → t.1 = p ∧ t.2.1 = 1) ∧ (t.2.1 = 0 → p < t.1)
theorem tkp_rd (hp : p ≤ L) (lo hi : Int) : Rd L p w (tkp B L lo hi p w) := by
  by_cases h : w = 0 ∧ p < L ∧ lo ≤ B p ∧ B p ≤ hi
  · rw [tkp_y h]
    exact ⟨by show p ≤ p + 1; omega, by show p + 1 ≤ L; omega, Or.inl rfl, fun z => absurd h.1 z, fun _ => by show p < p + 1; omega⟩
  · rw [tkp_n h]
    exact ⟨Nat.le_refl _, hp, Or.inr rfl, fun _ => ⟨rfl, rfl⟩, fun z => absurd z (by show ¬ ((1 : Int) = 0); omega)⟩
theorem tkp_v {lo hi : Int} (h : lo ≤ hi) : 0 ≤ (tkp B L lo hi p w).2.2 ∧ (tkp B L lo hi p w).2.2 ≤ hi - lo := by
  by_cases h : w = 0 ∧ p < L ∧ lo ≤ B p ∧ B p ≤ hi
  · rw [tkp_y h]
    show 0 ≤ B p - lo ∧ B p - lo ≤ hi - lo
    omega
  · rw [tkp_n h]
    show 0 ≤ (0 : Int) ∧ (0 : Int) ≤ hi - lo
    omega
theorem nlp_rg (most w : Int) : ∀ (n p : Nat) (v : Int), n + p ≤ L → p ≤ (nlp B L most w n p v).1 ∧ (nlp B L most w n p v).1 ≤ L ∧ (w ≠ 0 → (nlp B L most w n p v).1 = p) ∧ (0 ≤ v → 0 ≤ (nlp B L most w n p v).2 ∧ ((nlp B L most w n p v).2 ≤ most ∨ (nlp B L most w n p v).2 = v)) ∧ (1 ≤ v → 1 ≤ (nlp B L most w n p v).2)
  | 0, p, v, h => ⟨Nat.le_refl _, by show p ≤ L; omega, fun _ => rfl, fun h => ⟨h, Or.inr rfl⟩, fun h => h⟩
  | n + 1, p, v, h => by
    unfold nlp
    by_cases c : 0 < v ∧ w = 0 ∧ p < L ∧ 48 ≤ B p ∧ B p ≤ 57 ∧ 10 * v + B p - 48 ≤ most
    · rw [if_pos c]
      obtain ⟨h1, h2, h3, h4, h5⟩ := nlp_rg most w n (p + 1) (10 * v + B p - 48) (by omega)
      have h4 := h4 (by omega)
      refine ⟨by omega, h2, fun z => absurd c.2.1 z, fun _ => ⟨h4.1, Or.inl (by omega)⟩, fun _ => h5 (by omega)⟩
    · rw [if_neg c]
      exact ⟨Nat.le_refl _, by show p ≤ L; omega, fun _ => rfl, fun h => ⟨h, Or.inr rfl⟩, fun h => h⟩
theorem nmp_rd (hp : p ≤ L) (least most : Int) : Rd L p w (nmp B L least most p w) := by
  have ht := tkp_rd (B := B) (w := w) hp (48 + least) 57
  unfold nmp
  obtain ⟨t, e⟩ : ∃ t, t = tkp B L (48 + least) 57 p w := ⟨_, rfl⟩
  rw [← e] at ht ⊢
  obtain ⟨h1, h2, h3, h4, h5⟩ := ht
  obtain ⟨n1, n2, n3, n4, n5⟩ := nlp_rg (B := B) (L := L) most t.2.1 (L - t.1) t.1 (least + t.2.2) (by omega)
  refine ⟨Nat.le_trans h1 n1, n2, h3, fun z => ?_, fun z => ?_⟩
  · have := h4 z
    exact ⟨(n3 (by omega)).trans this.1, this.2⟩
  · have := h5 z
    show p < (nlp B L most t.2.1 (L - t.1) t.1 (least + t.2.2)).1
    omega
theorem nmp_v (hp : p ≤ L) {least most : Int} (h0 : least = 0 ∨ least = 1) (h9 : 9 ≤ most) : least ≤ (nmp B L least most p w).2.2 ∧ (nmp B L least most p w).2.2 ≤ most := by
  have ht := tkp_rd (B := B) (w := w) hp (48 + least) 57
  have hv := tkp_v (B := B) (L := L) (p := p) (w := w) (lo := 48 + least) (hi := 57) (by omega)
  unfold nmp
  obtain ⟨t, e⟩ : ∃ t, t = tkp B L (48 + least) 57 p w := ⟨_, rfl⟩
  rw [← e] at ht hv ⊢
  obtain ⟨h1, h2, h3, h4, h5⟩ := ht
  obtain ⟨n1, n2, n3, n4, n5⟩ := nlp_rg (B := B) (L := L) most t.2.1 (L - t.1) t.1 (least + t.2.2) (by omega)
  have n4 := n4 (by omega)
  show least ≤ (nlp B L most t.2.1 (L - t.1) t.1 (least + t.2.2)).2 ∧ (nlp B L most t.2.1 (L - t.1) t.1 (least + t.2.2)).2 ≤ most
  rcases h0 with rfl | rfl
  · omega
  · have := n5 (by omega)
    omega
theorem sgp_rd (hp : p ≤ L) (low most : Int) : Rd L p w (sgp B L low most p w) := by
  unfold sgp
  by_cases c : w = 0 ∧ p < L ∧ 45 ≤ B p ∧ B p ≤ 45
  · rw [if_pos c]
    obtain ⟨h1, h2, h3, h4, h5⟩ := nmp_rd (B := B) (w := w) (show p + 1 ≤ L by omega) 1 low
    exact ⟨by show p ≤ (nmp B L 1 low (p + 1) w).1; omega, h2, h3, fun z => absurd c.1 z, fun z => by have := h5 z; show p < (nmp B L 1 low (p + 1) w).1; omega⟩
  · rw [if_neg c]
    exact nmp_rd hp 0 most
theorem sgp_v (hp : p ≤ L) {low most : Int} (h1 : 9 ≤ low) (h2 : 9 ≤ most) : -low ≤ (sgp B L low most p w).2.2 ∧ (sgp B L low most p w).2.2 ≤ most := by
  unfold sgp
  by_cases c : w = 0 ∧ p < L ∧ 45 ≤ B p ∧ B p ≤ 45
  · rw [if_pos c]
    have := nmp_v (B := B) (w := w) (show p + 1 ≤ L by omega) (least := 1) (most := low) (Or.inr rfl) h1
    show -low ≤ -(nmp B L 1 low (p + 1) w).2.2 ∧ -(nmp B L 1 low (p + 1) w).2.2 ≤ most
    omega
  · rw [if_neg c]
    have := nmp_v (B := B) (w := w) hp (least := 0) (most := most) (Or.inl rfl) h2
    omega
end
/-! the model reads -/
def MR (o : OM) (L : Nat) (B : Nat → Int) (p : Nat) (w : Int) : Prop := WM o L B ∧ rd o 19 0 8 = I (p : Int) ∧ rd o 19 0 9 = I w
def T8 (o o1 : OM) : Prop := (∀ k i, k ≠ 19 → o1.1 k i = o.1 k i) ∧ o1.2 = o.2 ∧ ∀ j, j ≠ 8 → j ≠ 9 → rd o1 19 0 j = rd o 19 0 j
theorem T8.rf (o : OM) : T8 o o := ⟨fun _ _ _ => rfl, rfl, fun _ _ _ => rfl⟩
theorem T8.tr {o o1 o2 : OM} (h : T8 o o1) (h' : T8 o1 o2) : T8 o o2 := ⟨fun k i x => (h'.1 k i x).trans (h.1 k i x), h'.2.1.trans h.2.1, fun j x y => (h'.2.2 j x y).trans (h.2.2 j x y)⟩
theorem T8.wr {o o1 : OM} {j : Nat} {v : Int32} (h : T8 o o1) (hj : j = 8 ∨ j = 9) : T8 o (wr o1 19 0 j v) := ⟨fun k i x => (wr_ne _ _ (by omega)).trans (h.1 k i x), h.2.1, fun j' x y => (rd_wj _ _ (by omega)).trans (h.2.2 j' x y)⟩
section
variable {o : OM} {B : Nat → Int} {L p : Nat} {w : Int}
theorem WM.t8 {o1 : OM} (h : WM o L B) (t : T8 o o1) : WM o1 L B := h.c (t.2.2 7 (by omega) (by omega)) (t.1 23 0 (by omega))
theorem MR.at' (h : MR o L B p w) {k : Nat} (hk : k < L) : rd o 23 0 k = I (B k) := h.1.2 k hk
theorem isNext_e (h : MR o L B p w) (hb : BB L B) (hp : p ≤ L) (hw : w = 0 ∨ w = 1) {lo hi : Int} (hlo : R32 lo) (hhi : R32 hi) : F_X6_isNext o (I lo) (I hi) = some (tf (w = 0 ∧ p < L ∧ lo ≤ B p ∧ B p ≤ hi)) := by
  have hL := hb.1
  obtain ⟨⟨h7, h23⟩, h8, h9⟩ := h
  unfold F_X6_isNext
  rw [h7, h8, h9, bd_e, bd_e, show (0 : Int32) = I 0 from rfl]
  rcases hw with rfl | rfl
  · rw [if_pos rfl]
    by_cases c : p < L
    · have hBp := hb.2 p c
      rw [if_neg (by rw [I_le (by omega) (by omega) (by omega) (by omega)]; omega), I_inB (a := (p : Int)) (by omega) (by omega) (by omega), grd_e, I_tcN (by omega), h23 p c, in_I o (by omega) hlo hhi, bq_e]
      by_cases c2 : lo ≤ B p ∧ B p ≤ hi
      · rw [tf_t c2, if_neg (by decide), tf_t ⟨rfl, c, c2⟩]
        rfl
      · rw [tf_f c2, if_pos rfl, tf_f (fun z => c2 z.2.2)]
        rfl
    · rw [if_pos (by rw [I_le (by omega) (by omega) (by omega) (by omega)]; omega), tf_f (fun z => c z.2.1)]
      rfl
  · rw [if_neg (by decide), tf_f (by omega)]
    rfl
theorem takes_e (h : MR o L B p w) (hb : BB L B) (hp : p ≤ L) (hw : w = 0 ∨ w = 1) {lo hi : Int} (hlo : R32 lo) (hhi : R32 hi) : ∃ o1, F_X6_takes o (I lo) (I hi) = some (I (tkp B L lo hi p w).2.2, o1) ∧ T8 o o1 ∧ MR o1 L B (tkp B L lo hi p w).1 (tkp B L lo hi p w).2.1 := by
  have hL := hb.1
  have hn := isNext_e h hb hp hw hlo hhi
  obtain ⟨hWM, h8, h9⟩ := h
  have h23 := hWM.2
  have z0 : (0 : Int32) = I 0 := rfl
  have z1 : (1 : Int32) = I 1 := rfl
  unfold F_X6_takes
  by_cases c : w = 0 ∧ p < L ∧ lo ≤ B p ∧ B p ≤ hi
  · rw [tkp_y c]
    rw [tf_t c] at hn
    obtain ⟨o1, ho⟩ : ∃ o1, o1 = wr (wr o 19 0 8 (I ((p : Int) + 1))) 19 0 9 (I 0) := ⟨_, rfl⟩
    have t8 : T8 o o1 := by rw [ho]; exact ((T8.rf o).wr (Or.inl rfl)).wr (Or.inr rfl)
    refine ⟨o1, ?_, t8, hWM.t8 t8, by rw [ho, rd_wj _ _ (by omega), rd_wr]; rfl, by rw [ho, rd_wr]⟩
    rw [c.1] at h9
    rw [hn, bq_e, bd_e, z0, z1, if_neg (by decide), h8, I_inB (a := (p : Int)) (by omega) (by omega) (by omega), grd_e, I_tcN (by omega), h23 p c.2.1, I_sub]
    dsimp only
    rw [bd_e, if_neg (by decide)]
    dsimp only
    rw [I_add, bd_e, rd_wj _ _ (by omega), h9, bd_e, if_pos rfl, if_neg (by decide)]
    dsimp only
    rw [isZ0, grd_e, bd_e, ← ho]
  · rw [tkp_n c]
    rw [tf_f c] at hn
    obtain ⟨o1, ho⟩ : ∃ o1, o1 = wr (wr o 19 0 8 (I ((p : Int) + 0))) 19 0 9 (I 1) := ⟨_, rfl⟩
    have t8 : T8 o o1 := by rw [ho]; exact ((T8.rf o).wr (Or.inl rfl)).wr (Or.inr rfl)
    refine ⟨o1, ?_, t8, hWM.t8 t8, by rw [ho, rd_wj _ _ (by omega), rd_wr, Int.add_zero], by rw [ho, rd_wr]⟩
    rw [hn, bq_e, bd_e, z0, z1, if_pos rfl]
    dsimp only
    rw [bd_e, if_pos rfl]
    dsimp only
    rw [h8, I_add, bd_e, rd_wj _ _ (by omega), h9, bd_e]
    rcases hw with rfl | rfl
    · rw [if_pos rfl, if_pos rfl]
      dsimp only
      rw [isZ1, grd_e, bd_e, ← ho]
    · rw [if_neg (by decide)]
      dsimp only
      rw [isZ1, grd_e, bd_e, ← ho]
theorem number_loop (hb : BB L B) (hw : w = 0 ∨ w = 1) {most : Int} (hm : 0 ≤ most ∧ most ≤ 2000) (kk : OM → Int32 → Option (Int32 × OM)) : ∀ (fuel n p : Nat) (o : OM) (v : Int), n + p = L → n < fuel → MR o L B p w → 0 ≤ v → v ≤ 2000 → ∃ o1, LX6_number_13 kk (I most) fuel o (I v) = kk o1 (I (nlp B L most w n p v).2) ∧ T8 o o1 ∧ MR o1 L B (nlp B L most w n p v).1 w := by
  have hL := hb.1
  intro fuel
  induction fuel with
  | zero => intro n p o v h1 h2; omega
  | succ fuel ih =>
    intro n p o v h1 h2 h h3 h4
    have z0 : (0 : Int32) = I 0 := rfl
    have z1 : (1 : Int32) = I 1 := rfl
    have hn := isNext_e h hb (by omega) hw (lo := 48) (hi := 57) (by omega) (by omega)
    rw [LX6_number_13.eq_2]
    dsimp only
    rw [show (48 : Int32) = I 48 from rfl, show (57 : Int32) = I 57 from rfl, show (10 : Int32) = I 10 from rfl, z0, z1]
    have stop : ¬ (0 < v ∧ w = 0 ∧ p < L ∧ 48 ≤ B p ∧ B p ≤ 57 ∧ 10 * v + B p - 48 ≤ most) → nlp B L most w n p v = (p, v) := by
      intro c
      cases n with
      | zero => rfl
      | succ n => unfold nlp; rw [if_neg c]
    by_cases c1 : v ≤ 0
    · rw [stop (by omega)]
      refine ⟨o, ?_, T8.rf o, h⟩
      rw [if_pos (by rw [I_le (by omega) (by omega) (by omega) (by omega)]; exact c1)]
    · rw [if_neg (by rw [I_le (by omega) (by omega) (by omega) (by omega)]; exact c1), hn, bq_e]
      by_cases c2 : w = 0 ∧ p < L ∧ 48 ≤ B p ∧ B p ≤ 57
      · have h23 := h.1.2 p c2.2.1
        have h8 := h.2.1
        rw [tf_t c2, if_neg (by decide), h8, I_inB (a := (p : Int)) (by omega) (by omega) (by omega), grd_e, I_tcN (by omega), h23, I_mul, I_add, I_sub]
        by_cases c3 : 10 * v + B p - 48 ≤ most
        · rw [if_neg (by rw [I_lt (by omega) (by omega) (by omega) (by omega)]; omega), grd_e, bd_e, I_add, bd_e]
          obtain ⟨n', rfl⟩ : ∃ n', n = n' + 1 := ⟨n - 1, by omega⟩
          have t8 : T8 o (wr o 19 0 8 (I ((p : Int) + 1))) := (T8.rf o).wr (Or.inl rfl)
          obtain ⟨o1, e1, f1, m1⟩ := ih n' (p + 1) (wr o 19 0 8 (I ((p : Int) + 1))) (10 * v + B p - 48) (by omega) (by omega) ⟨h.1.t8 t8, rd_wr _ _ _ _ _, by rw [rd_wj _ _ (by omega)]; exact h.2.2⟩ (by omega) (by omega)
          have es : nlp B L most w (n' + 1) p v = nlp B L most w n' (p + 1) (10 * v + B p - 48) := by
            rw [nlp.eq_2]
            exact if_pos (by omega)
          rw [es]
          exact ⟨o1, e1, t8.tr f1, m1⟩
        · rw [stop (by omega), if_pos (by rw [I_lt (by omega) (by omega) (by omega) (by omega)]; omega)]
          exact ⟨o, rfl, T8.rf o, h⟩
      · rw [stop (fun z => c2 ⟨z.2.1, z.2.2.1, z.2.2.2.1, z.2.2.2.2.1⟩), tf_f c2, if_pos rfl]
        exact ⟨o, rfl, T8.rf o, h⟩
theorem number_e (h : MR o L B p w) (hb : BB L B) (hp : p ≤ L) (hw : w = 0 ∨ w = 1) {least most : Int} (h0 : least = 0 ∨ least = 1) (hm : 9 ≤ most ∧ most ≤ 2000) : ∃ o1, F_X6_number o (I least) (I most) = some (I (nmp B L least most p w).2.2, o1) ∧ T8 o o1 ∧ MR o1 L B (nmp B L least most p w).1 (nmp B L least most p w).2.1 := by
  have hL := hb.1
  obtain ⟨o1, e1, f1, m1⟩ := takes_e h hb hp hw (lo := 48 + least) (hi := 57) (by omega) (by omega)
  have ht := tkp_rd (B := B) (w := w) hp (48 + least) 57
  have hv := tkp_v (B := B) (L := L) (p := p) (w := w) (lo := 48 + least) (hi := 57) (by omega)
  have hFU : 100 < FU := by unfold FU; omega
  unfold F_X6_number nmp
  generalize FU = F at hFU ⊢
  obtain ⟨t, e⟩ : ∃ t, t = tkp B L (48 + least) 57 p w := ⟨_, rfl⟩
  rw [← e] at ht hv e1 m1 ⊢
  obtain ⟨t1, t2, t3, t4, t5⟩ := ht
  obtain ⟨o2, e2, f2, m2⟩ := number_loop hb t3 (most := most) (by omega) (fun (o_5 : OM) (v3_4 : Int32) => some (v3_4, o_5)) F (L - t.1) t.1 o1 (least + t.2.2) (by omega) (by omega) m1 (by omega) (by omega)
  refine ⟨o2, ?_, f1.tr f2, m2⟩
  rw [show (48 : Int32) = I 48 from rfl, show (57 : Int32) = I 57 from rfl, I_add, e1, bn_e, I_add, bd_e, bd_e, e2]
  rfl
theorem signed_e (h : MR o L B p w) (hb : BB L B) (hp : p ≤ L) (hw : w = 0 ∨ w = 1) {low most : Int} (hl : 9 ≤ low ∧ low ≤ 2000) (hm : 9 ≤ most ∧ most ≤ 2000) : ∃ o1, F_X6_signed o (I low) (I most) = some (I (sgp B L low most p w).2.2, o1) ∧ T8 o o1 ∧ MR o1 L B (sgp B L low most p w).1 (sgp B L low most p w).2.1 := by
  have hL := hb.1
  have hn := isNext_e h hb hp hw (lo := 45) (hi := 45) (by omega) (by omega)
  unfold F_X6_signed sgp
  rw [show (45 : Int32) = I 45 from rfl, show (0 : Int32) = I 0 from rfl, show (1 : Int32) = I 1 from rfl, hn, bq_e]
  by_cases c : w = 0 ∧ p < L ∧ 45 ≤ B p ∧ B p ≤ 45
  · rw [tf_t c, if_pos c, if_neg (by decide)]
    have t8 : T8 o (wr o 19 0 8 (I ((p : Int) + 1))) := (T8.rf o).wr (Or.inl rfl)
    obtain ⟨o1, e1, f1, m1⟩ := number_e (o := wr o 19 0 8 (I ((p : Int) + 1))) (p := p + 1) (w := w) ⟨h.1.t8 t8, rd_wr _ _ _ _ _, by rw [rd_wj _ _ (by omega)]; exact h.2.2⟩ hb (by omega) hw (least := 1) (most := low) (Or.inr rfl) hl
    refine ⟨o1, ?_, t8.tr f1, m1⟩
    rw [h.2.1, I_add, bd_e, e1, bn_e, I_neg]
    rfl
  · rw [tf_f c, if_neg c, if_pos rfl]
    obtain ⟨o1, e1, f1, m1⟩ := number_e h hb hp hw (least := 0) (most := most) (Or.inl rfl) hm
    refine ⟨o1, ?_, f1, m1⟩
    rw [e1, bn_e]
end
