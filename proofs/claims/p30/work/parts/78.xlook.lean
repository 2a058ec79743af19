/-! the program's looks as they are called -/
theorem i10 : (I 1 = I 0) = False := by decide
theorem i00 : (I 0 = I 0) = True := eq_self _
theorem within_I (o : OM) {a b c : Int} (ha : -2147483648 ≤ a ∧ a < 2147483648) (hb : -2147483648 ≤ b ∧ b < 2147483648) (hc : -2147483648 ≤ c ∧ c < 2147483648) : F_X5_isWithin o (I a) (I b) (I c) = some (tf (b ≤ a ∧ a ≤ c)) := by
  rw [within_e]
  congr 1
  apply tf_c
  rw [I_lt ha.1 ha.2 hb.1 hb.2, I_lt hc.1 hc.2 ha.1 ha.2]
  omega
theorem bx_0 {β γ : Type} (b : β) (o1 : OM) (z0 : γ) (k : β → OM → Option ((Nat × γ) × OM)) : bx (some ((0, b), o1)) z0 k = k b o1 := rfl
theorem bx_3 {β γ : Type} (b : β) (o1 : OM) (z0 : γ) (k : β → OM → Option ((Nat × γ) × OM)) : bx (some ((3, b), o1)) z0 k = some ((3, z0), o1) := rfl
theorem bx_1 {β γ : Type} (b : β) (o1 : OM) (z0 : γ) (k : β → OM → Option ((Nat × γ) × OM)) : bx (some ((1, b), o1)) z0 k = some ((1, z0), o1) := rfl
section
variable {o : OM} {S : Int → Int} {g Y : Nat}
theorem need_y (hC : CS o 0 S) (hB : SB S Y) {a : Int} (ha : -2147483648 ≤ a ∧ a < 2147483648) (h : 0 ≤ a ∧ a < (gm S : Int)) : F_X5_needThermometer o (I a) = some ((0, ()), o) := by
  unfold F_X5_needThermometer
  rw [has_e hC hB, I_to ha.1 ha.2, bq_e, tf_t h, if_neg (by decide)]
theorem need_n (hC : CS o 0 S) (hB : SB S Y) {a : Int} (ha : -2147483648 ≤ a ∧ a < 2147483648) (h : ¬ (0 ≤ a ∧ a < (gm S : Int))) : F_X5_needThermometer o (I a) = some ((3, ()), o) := by
  unfold F_X5_needThermometer
  rw [has_e hC hB, I_to ha.1 ha.2, bq_e, tf_f h, if_pos (by decide)]
theorem bath_y (o : OM) {a : Int} (h : 0 ≤ a ∧ a ≤ 3) : F_X5_needBath o (I a) = some ((0, ()), o) := by
  unfold F_X5_needBath
  rw [show (0 : Int32) = I 0 from rfl, show (3 : Int32) = I 3 from rfl, within_I o (by omega) (by omega) (by omega), bq_e, tf_t h, if_neg (by decide)]
theorem bath_n (o : OM) {a : Int} (ha : -2147483648 ≤ a ∧ a < 2147483648) (h : ¬ (0 ≤ a ∧ a ≤ 3)) : F_X5_needBath o (I a) = some ((3, ()), o) := by
  unfold F_X5_needBath
  rw [show (0 : Int32) = I 0 from rfl, show (3 : Int32) = I 3 from rfl, within_I o (by omega) (by omega) (by omega), bq_e, tf_f h, if_pos (by decide)]
theorem deg_y (o : OM) {a : Int} (h : -400 ≤ a ∧ a ≤ 1500) : F_X5_needDegree o (I a) = some ((0, ()), o) := by
  unfold F_X5_needDegree
  rw [show (-400 : Int32) = I (-400) from rfl, show (1500 : Int32) = I 1500 from rfl, within_I o (by omega) (by omega) (by omega), bq_e, tf_t h, if_neg (by decide)]
theorem deg_n (o : OM) {a : Int} (ha : -2147483648 ≤ a ∧ a < 2147483648) (h : ¬ (-400 ≤ a ∧ a ≤ 1500)) : F_X5_needDegree o (I a) = some ((1, ()), o) := by
  unfold F_X5_needDegree
  rw [show (-400 : Int32) = I (-400) from rfl, show (1500 : Int32) = I 1500 from rfl, within_I o (by omega) (by omega) (by omega), bq_e, tf_f h, if_pos (by decide)]
theorem CS.t (hC : CS o 0 S) (hg : g < gm S) : TC (fun k => o.1 k (tid 0 (rd o 4 0 g))) S g := hC.2.2.2.2.2.2.2 g hg
theorem x_reads (hC : CS o 0 S) (hB : SB S Y) (hg : g < gm S) {z : Int} (h1 : -400 ≤ z) (h2 : z ≤ 1500) : F_X5_reads o (I (g : Int)) (I z) = some ((0, I (rdg S g z + 10000)), o) := by
  have hm := hB.m
  unfold F_X5_reads
  rw [need_y hC hB (by omega) (by omega), bx_0, deg_y o ⟨h1, h2⟩, bx_0, I_inB (a := (g : Int)) (by omega) (by omega) (by omega), grd_e, I_tcN (by omega), bd_e, readingAt_e (hC.t hg) (hB.g hg) h1 h2, bq_e, show (10000 : Int32) = I 10000 from rfl, I_add]
theorem x_corrected (hC : CS o 0 S) (hB : SB S Y) (hg : g < gm S) {x w : Int} (h1 : -999 ≤ x) (h2 : x ≤ 1999) (hw : w = 0 ∨ w = 1) : F_X5_corrected o (I (g : Int)) (I x) (I w) = some ((0, I (cor S g x)), o) := by
  have hm := hB.m
  have hG := hB.g hg
  have hn := (hC.t hg).n
  have hn10 := hG.p.1
  unfold F_X5_corrected cor
  rw [need_y hC hB (by omega) (by omega), bx_0, show (-999 : Int32) = I (-999) from rfl, show (1999 : Int32) = I 1999 from rfl, show (0 : Int32) = I 0 from rfl, show (1 : Int32) = I 1 from rfl, within_I o (by omega) (by omega) (by omega), bq_e, tf_t (by omega), if_neg (by decide), within_I o (by omega) (by omega) (by omega), bq_e, tf_t (by omega), if_neg (by decide), I_inB (a := (g : Int)) (by omega) (by omega) (by omega), grd_e, I_tcN (by omega), bd_e, hn, show (2 : Int32) = I 2 from rfl]
  by_cases c : 2 ≤ gn S g
  · rw [if_pos (by rw [I_le (by omega) (by omega) (by omega) (by omega)]; omega), bd_e, if_pos c, correctByTree_f (hC.t hg) hG c (by omega) (by omega), correctByOrder_f (hC.t hg) hG c (by omega) (by omega), bq_e, show (10000000 : Int32) = I 10000000 from rfl]
    dsimp only
    rw [I_add]
    split <;> rfl
  · rw [if_neg (by rw [I_le (by omega) (by omega) (by omega) (by omega)]; omega), if_neg c]
    rfl
theorem x_thermo (hC : CS o 0 S) (hB : SB S Y) (hY : Y ≤ 1000000) (hg : g < gm S) {w : Int} (h1 : 0 ≤ w) (h2 : w ≤ 8) : F_X5_thermometer o (I (g : Int)) (I w) = some ((0, I (ofg S g w)), o) := by
  have hm := hB.m
  have hT := hC.t hg
  have hG := hB.g hg
  unfold F_X5_thermometer
  rw [need_y hC hB (by omega) (by omega), bx_0, I_inB (a := (g : Int)) (by omega) (by omega) (by omega), grd_e, I_tcN (by omega), bd_e]
  obtain ⟨t, ht⟩ : ∃ t, t = tid 0 (rd o 4 0 g) := ⟨_, rfl⟩
  rw [← ht] at hT ⊢
  have hc : w = 0 ∨ w = 1 ∨ w = 2 ∨ w = 3 ∨ w = 4 ∨ w = 5 ∨ w = 6 ∨ w = 7 ∨ w = 8 := by omega
  rcases hc with rfl | rfl | rfl | rfl | rfl | rfl | rfl | rfl | rfl
  · exact congrArg (fun x => some ((0, x), o)) hT.2.2.1
  · exact congrArg (fun x => some ((0, x), o)) hT.2.2.2.1
  · exact congrArg (fun x => some ((0, x), o)) hT.2.2.2.2.1
  · exact congrArg (fun x => some ((0, x), o)) hT.n
  · rw [treeDepth_e hT.n hT.p hG.p.1]
    rfl
  · exact congrArg (fun x => some ((0, x), o)) hT.2.2.2.2.2.1
  · rw [isValid_e hC hB hY hT hG]
    have e : ofg S g 6 = val S g := rfl
    rw [e]
    rcases val_01 S g with e | e <;> rw [e] <;> rfl
  · rw [reasonForNoPaper_e hC hB hY hg hT]
    rfl
  · rw [widestGap_e hT.n hT.p hG.p]
    rfl
theorem x_point (hC : CS o 0 S) (hB : SB S Y) (hg : g < gm S) {p w : Int} (hp0 : 0 ≤ p) (hp : p < 2147483648) (h1 : 0 ≤ w) (h2 : w ≤ 3) : F_X5_point o (I (g : Int)) (I p) (I w) = some ((0, I (ofp S g p w)), o) := by
  have hm := hB.m
  have hT := hC.t hg
  have hG := hB.g hg
  have hn := hT.n
  have hPB := hG.p
  have hn10 := hPB.1
  unfold F_X5_point ofp
  rw [need_y hC hB (by omega) (by omega), bx_0, show (0 : Int32) = I 0 from rfl, show (3 : Int32) = I 3 from rfl, if_pos (by rw [I_le (by omega) (by omega) (by omega) (by omega)]; omega), within_I o (by omega) (by omega) (by omega), bq_e, tf_t (by omega), if_neg (by decide), I_inB (a := (g : Int)) (by omega) (by omega) (by omega), grd_e, I_tcN (by omega), bd_e, hn]
  by_cases c : p < (gn S g : Int)
  · obtain ⟨k, rfl⟩ : ∃ k : Nat, p = (k : Int) := ⟨p.toNat, by omega⟩
    have hk : k < gn S g := by omega
    have ho := hT.p.oi hPB.2.1 hk
    have hsp := oi_sp hG.s hk
    have hA := hT.p (oi (pr S g) (gn S g) k) hsp.1
    have ho' : rd o 13 (tid 0 (rd o 4 0 g)) k = I (oi (pr S g) (gn S g) k : Int) := ho
    obtain ⟨t, ht⟩ : ∃ t, t = tid 0 (rd o 4 0 g) := ⟨_, rfl⟩
    rw [← ht] at hA ho' ⊢
    rw [if_pos (by rw [I_lt (by omega) (by omega) (by omega) (by omega)]; exact c), if_pos c, I_inB (a := (k : Int)) (by omega) (by omega) (by omega), grd_e, I_tcN (by omega), bd_e, ho', show ((k : Int)).toNat = k from rfl]
    obtain ⟨j, hj⟩ : ∃ j, j = oi (pr S g) (gn S g) k := ⟨_, rfl⟩
    rw [← hj] at hsp hA ⊢
    rw [I_inB (a := (j : Int)) (by omega) (by omega) (by omega), grd_e, grd_e, grd_e, grd_e, I_tcN (by omega)]
    dsimp only
    have hc : w = 0 ∨ w = 1 ∨ w = 2 ∨ w = 3 := by omega
    obtain ⟨a7, a8, a9, -, -, a12, -⟩ := hA
    have a7 : rd o 7 t j = I (pr S g j) := a7
    have a8 : rd o 8 t j = I (pd S g j) := a8
    have a9 : rd o 9 t j = I (py S g j) := a9
    have a12 : rd o 12 t j = I (dep (pr S g) j : Int) := a12
    rw [a7, a8, a9, a12, show (10000 : Int32) = I 10000 from rfl, I_add, I_add]
    rcases hc with rfl | rfl | rfl | rfl <;> rfl
  · rw [if_neg (by rw [I_lt (by omega) (by omega) (by omega) (by omega)]; exact c), if_neg c]
    rfl
theorem x_overlap (hC : CS o 0 S) (hB : SB S Y) (hg : g < gm S) {h : Nat} (hh : h < gm S) {z : Int} (h1 : -400 ≤ z) (h2 : z ≤ 1500) : F_X5_overlap o (I (g : Int)) (I (h : Int)) (I z) = some ((0, I (ovl S g h z)), o) := by
  have hm := hB.m
  unfold F_X5_overlap
  rw [need_y hC hB (by omega) (by omega), bx_0, need_y hC hB (by omega) (by omega), bx_0, deg_y o ⟨h1, h2⟩, bx_0, I_inB (a := (g : Int)) (by omega) (by omega) (by omega), grd_e, I_tcN (by omega), bd_e, I_inB (a := (h : Int)) (by omega) (by omega) (by omega), grd_e, I_tcN (by omega), bd_e, overlapWith_e (hC.t hg) (hC.t hh) (hB.g hg) (hB.g hh) h1 h2, bq_e]
theorem cworst_loop (hC : CS o 0 S) (hB : SB S Y) (hg : g < gm S) {h : Nat} (hh : h < gm S) (kk : Int32 → Option ((Nat × Int32) × OM)) : ∀ (fuel n : Nat) (f m z : Int), n < fuel → z + 100 * (n : Int) = 1600 → -400 ≤ z → -1 ≤ f → f ≤ 12000 → -1 ≤ m → m ≤ 1200000000 → LX5_worstDegree_20 kk (I (g : Int)) o (I (h : Int)) fuel (I f) (I m) (I z) = kk (I (wsp S g h n f m z)) := by
  have hm := hB.m
  intro fuel
  induction fuel with
  | zero => intro n f m z h1; omega
  | succ fuel ih =>
    intro n f m z h1 h2 h3 h4 h5 h6 h7
    rw [LX5_worstDegree_20.eq_2]
    dsimp only
    rw [show (1500 : Int32) = I 1500 from rfl]
    cases n with
    | zero =>
      rw [if_pos (by rw [I_lt (by omega) (by omega) (by omega) (by omega)]; omega)]
      rfl
    | succ n =>
      have hr := ovl_rg (hB.g hg) (hB.g hh) (z := z) (by omega) (by omega)
      rw [if_neg (by rw [I_lt (by omega) (by omega) (by omega) (by omega)]; omega), I_inB (a := (g : Int)) (by omega) (by omega) (by omega), grd_e, I_tcN (by omega), bd_e, I_inB (a := (h : Int)) (by omega) (by omega) (by omega), grd_e, I_tcN (by omega), bd_e, overlapWith_e (hC.t hg) (hC.t hh) (hB.g hg) (hB.g hh) (by omega) (by omega), bq_e, bd_e, show (10000 : Int32) = I 10000 from rfl, show (100 : Int32) = I 100 from rfl, I_add, I_add]
      dsimp only
      rw [bd_e]
      have e : wsp S g h (n + 1) f m z = if ovl S g h z ≤ m then wsp S g h n f m (z + 100) else wsp S g h n (z + 10000) (ovl S g h z) (z + 100) := rfl
      rw [e]
      by_cases c : ovl S g h z ≤ m
      · rw [if_pos c, if_pos (by rw [I_le (by omega) (by omega) (by omega) (by omega)]; exact c)]
        exact ih n f m (z + 100) (by omega) (by omega) (by omega) h4 h5 h6 h7
      · rw [if_neg c, if_neg (by rw [I_le (by omega) (by omega) (by omega) (by omega)]; exact c)]
        exact ih n (z + 10000) (ovl S g h z) (z + 100) (by omega) (by omega) (by omega) (by omega) (by omega) (by omega) (by omega)
theorem x_worst (hC : CS o 0 S) (hB : SB S Y) (hg : g < gm S) {h : Nat} (hh : h < gm S) : F_X5_worstDegree o (I (g : Int)) (I (h : Int)) = some ((0, I (wst S g h)), o) := by
  have hm := hB.m
  have hFU : 30 < FU := by unfold FU; omega
  unfold F_X5_worstDegree
  generalize FU = F at hFU ⊢
  rw [need_y hC hB (by omega) (by omega), bx_0, need_y hC hB (by omega) (by omega), bx_0, bd_e, show (-1 : Int32) = I (-1) from rfl, show (-400 : Int32) = I (-400) from rfl]
  exact cworst_loop hC hB hg hh _ F 20 (-1) (-1) (-400) (by omega) (by omega) (by omega) (by omega) (by omega) (by omega) (by omega)
theorem x_void (hC : CS o 0 S) (hB : SB S Y) (hY : Y ≤ 1000000) (hg : g < gm S) : F_X5_voidIn o (I (g : Int)) = some ((0, I (vdf S g)), o) := by
  have hm := hB.m
  unfold F_X5_voidIn
  rw [need_y hC hB (by omega) (by omega), bx_0, I_inB (a := (g : Int)) (by omega) (by omega) (by omega), grd_e, I_tcN (by omega), bd_e, cyears_e hC hB hY (hC.t hg) (hB.g hg), bq_e]
theorem x_stopped (hC : CS o 0 S) {w : Int} (hw : w = 0 ∨ w = 1) : F_X5_stopped o (I w) = some ((0, I (S (244 + w))), o) := by
  have c4 := hC.2.2.2.1
  have c5 := hC.2.2.2.2.1
  unfold F_X5_stopped
  rw [show (0 : Int32) = I 0 from rfl, show (1 : Int32) = I 1 from rfl, within_I o (by omega) (by omega) (by omega), bq_e, tf_t (by omega), if_neg (by decide), bd_e, c4, c5]
  rcases hw with rfl | rfl <;> rfl
/-- what count tells -/
def cts (S : Int → Int) (m : Nat) (w : Int) : Int :=
  if w = 0 then S 233 else if w = 1 then S 228 else if w = 2 ∨ w = 3 ∨ w = 5 then sof S w else if w = 4 then S 234 else if w = 17 then (m : Int) else if w < 10 then S (229 + (w - 6)) + 10000 else S (235 + (w - 10))
theorem x_count (hC : CS o 0 S) (hB : SB S Y) (hY : Y ≤ 1000000) {m : Nat} (hm : rd o 14 0 0 = I (m : Int)) {w : Int} (h1 : 0 ≤ w) (h2 : w ≤ 17) : F_X5_count o (I w) = some ((0, I (cts S m w)), o) := by
  have e2 := allPoints_e hC hB
  have e3 := validPapers_e hC hB hY
  have e5 := allCrept_e hC hB
  obtain ⟨c1, c2, c3, c4, c5, c6, c7, c8⟩ := hC
  unfold F_X5_count
  rw [show (0 : Int32) = I 0 from rfl, show (17 : Int32) = I 17 from rfl, within_I o (by omega) (by omega) (by omega), bq_e, tf_t (by omega), if_neg (by decide), bd_e, bd_e]
  dsimp only
  rw [e2, e3, e5, bq_e, bq_e, bq_e, hm, c1, c2, c3, show (10 : Int32) = I 10 from rfl, show (16 : Int32) = I 16 from rfl, show (6 : Int32) = I 6 from rfl, show (9 : Int32) = I 9 from rfl, I_sub, I_sub]
  unfold cts
  by_cases a1 : w < 10
  · rw [if_pos (by rw [I_lt (by omega) (by omega) (by omega) (by omega)]; exact a1)]
    by_cases a2 : w < 6
    · rw [if_pos (by rw [I_lt (by omega) (by omega) (by omega) (by omega)]; exact a2)]
      have hc : w = 0 ∨ w = 1 ∨ w = 2 ∨ w = 3 ∨ w = 4 ∨ w = 5 := by omega
      rcases hc with rfl | rfl | rfl | rfl | rfl | rfl <;> rfl
    · rw [if_neg (by rw [I_lt (by omega) (by omega) (by omega) (by omega)]; exact a2), if_neg (by rw [I_lt (by omega) (by omega) (by omega) (by omega)]; omega), I_inB (a := w - 6) (by omega) (by omega) (by omega), grd_e, c6 (w - 6) (by omega) (by omega), show (10000 : Int32) = I 10000 from rfl, I_add, if_neg (by omega), if_neg (by omega), if_neg (by omega), if_neg (by omega), if_neg (by omega), if_pos a1]
  · rw [if_neg (by rw [I_lt (by omega) (by omega) (by omega) (by omega)]; exact a1)]
    by_cases a2 : 16 < w
    · obtain rfl : w = 17 := by omega
      rfl
    · rw [if_neg (by rw [I_lt (by omega) (by omega) (by omega) (by omega)]; exact a2), I_inB (a := w - 10) (by omega) (by omega) (by omega), grd_e, c7 (w - 10) (by omega) (by omega), if_neg (by omega), if_neg (by omega), if_neg (by omega), if_neg (by omega), if_neg (by omega), if_neg a1]
end
