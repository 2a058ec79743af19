/-! the program reads signs and numbers -/
def PR (o : OM) (L : Nat) (B : Nat → Int) (p : Nat) : Prop := WC o L B ∧ rd o 16 0 2 = I (p : Int)
def T16 (o o1 : OM) : Prop := (∀ k i, k ≠ 16 → k ≠ 18 → o1.1 k i = o.1 k i) ∧ o1.2 = o.2 ∧ rd o1 16 0 0 = rd o 16 0 0 ∧ rd o1 16 0 3 = rd o 16 0 3
def N16 (o o1 : OM) : Prop := rd o1 16 0 5 = rd o 16 0 5 ∧ ∀ j, rd o1 18 0 j = rd o 18 0 j
theorem T16.rf (o : OM) : T16 o o := ⟨fun _ _ _ _ => rfl, rfl, rfl, rfl⟩
theorem T16.tr {o o1 o2 : OM} (h : T16 o o1) (h' : T16 o1 o2) : T16 o o2 := ⟨fun k i x y => (h'.1 k i x y).trans (h.1 k i x y), h'.2.1.trans h.2.1, h'.2.2.1.trans h.2.2.1, h'.2.2.2.trans h.2.2.2⟩
theorem N16.rf (o : OM) : N16 o o := ⟨rfl, fun _ => rfl⟩
theorem N16.tr {o o1 o2 : OM} (h : N16 o o1) (h' : N16 o1 o2) : N16 o o2 := ⟨h'.1.trans h.1, fun j => (h'.2 j).trans (h.2 j)⟩
theorem T16.w2 {o o1 : OM} {v : Int32} (h : T16 o o1) : T16 o (wr o1 16 0 2 v) := ⟨fun k i x y => (wr_ne _ _ (by omega)).trans (h.1 k i x y), h.2.1, (rd_wj _ _ (by omega)).trans h.2.2.1, (rd_wj _ _ (by omega)).trans h.2.2.2⟩
theorem N16.w2 {o o1 : OM} {v : Int32} (h : N16 o o1) : N16 o (wr o1 16 0 2 v) := ⟨(rd_wj _ _ (by omega)).trans h.1, fun j => (rd_wk _ _ (by omega)).trans (h.2 j)⟩
theorem WC.t {o o1 : OM} {L : Nat} {B : Nat → Int} (h : WC o L B) (t : T16 o o1) : WC o1 L B := h.c t.2.2.1 (t.1 17 0 (by omega) (by omega))
def Sg (F : Option (Int32 × OM)) (o : OM) (L : Nat) (B : Nat → Int) (c : Nat) (t : Nat × Int × Int) : Prop := ∃ o1, F = some (tf (t.2.1 = 0), o1) ∧ T16 o o1 ∧ PR o1 L B t.1 ∧ (t.2.1 = 0 → rd o1 16 0 5 = I ((c + 1 : Nat) : Int) ∧ rd o1 18 0 c = I t.2.2 ∧ ∀ j, j ≠ c → rd o1 18 0 j = rd o 18 0 j)
section
variable {o : OM} {B : Nat → Int} {L p : Nat}
theorem ltr_rg (hb : BB L B) : 0 ≤ ltr B L p ∧ ltr B L p ≤ 126 := by
  unfold ltr
  split
  · rename_i c
    have := hb.2 p c
    omega
  · omega
theorem nextSign_e (h : PR o L B p) (hb : BB L B) (hp : p ≤ L) : F_X4_nextSign o = some (I (ltr B L p)) := by
  have hL := hb.1
  unfold F_X4_nextSign ltr
  rw [h.1.1, h.2, bd_e]
  by_cases c : p < L
  · rw [if_neg (by rw [I_le (by omega) (by omega) (by omega) (by omega)]; omega), if_pos c, I_inB (a := (p : Int)) (by omega) (by omega) (by omega), grd_e, I_tcN (by omega), h.1.2 p c]
  · rw [if_pos (by rw [I_le (by omega) (by omega) (by omega) (by omega)]; omega), if_neg c]
    rfl
def dgt (B : Nat → Int) (L p : Nat) : Int := if 48 ≤ ltr B L p ∧ ltr B L p ≤ 57 then ltr B L p - 48 else -1
theorem nextDigit_e (h : PR o L B p) (hb : BB L B) (hp : p ≤ L) : F_X4_nextDigit o = some (I (dgt B L p)) := by
  have hl := ltr_rg (p := p) hb
  unfold F_X4_nextDigit dgt
  rw [nextSign_e h hb hp, bq_e, bd_e, bd_e, show (48 : Int32) = I 48 from rfl, show (57 : Int32) = I 57 from rfl]
  by_cases c1 : 48 ≤ ltr B L p
  · rw [if_neg (by rw [I_lt (by omega) (by omega) (by omega) (by omega)]; omega)]
    by_cases c2 : ltr B L p ≤ 57
    · rw [if_neg (by rw [I_lt (by omega) (by omega) (by omega) (by omega)]; omega), if_pos ⟨c1, c2⟩, I_sub]
    · rw [if_pos (by rw [I_lt (by omega) (by omega) (by omega) (by omega)]; omega), if_neg (fun z => c2 z.2)]
      rfl
  · rw [if_pos (by rw [I_lt (by omega) (by omega) (by omega) (by omega)]; omega), if_neg (fun z => c1 z.1)]
    rfl
theorem rsign_e (h : PR o L B p) (hb : BB L B) (hp : p ≤ L) {c : Int} (hc : R32 c) : ∃ o1, F_X4_readSign o (I c) = some (tf ((tkp B L c c p 0).2.1 = 0), o1) ∧ T16 o o1 ∧ N16 o o1 ∧ PR o1 L B (tkp B L c c p 0).1 := by
  have hL := hb.1
  unfold F_X4_readSign
  rw [h.1.1, h.2, bd_e, show (0 : Int32) = I 0 from rfl, show (1 : Int32) = I 1 from rfl]
  by_cases c1 : p < L
  · have hBp := hb.2 p c1
    rw [if_neg (by rw [I_le (by omega) (by omega) (by omega) (by omega)]; omega), I_inB (a := (p : Int)) (by omega) (by omega) (by omega), grd_e, I_tcN (by omega), h.1.2 p c1]
    by_cases c2 : B p = c
    · rw [tkp_y ⟨rfl, c1, by omega, by omega⟩, tf_t rfl, if_pos (by rw [c2])]
      have t : T16 o (wr o 16 0 2 (I ((p : Int) + 1))) := (T16.rf o).w2
      refine ⟨wr o 16 0 2 (I ((p : Int) + 1)), ?_, t, (N16.rf o).w2, h.1.t t, rd_wr _ _ _ _ _⟩
      rw [I_add, bd_e, isZ1, grd_e]
    · rw [tkp_n (fun z => c2 (by omega)), tf_f (by show ¬ ((1 : Int) = 0); omega), if_neg (fun z => c2 (I_inj (by omega) (by omega) hc.1 hc.2 z))]
      exact ⟨o, rfl, T16.rf o, N16.rf o, h⟩
  · rw [if_pos (by rw [I_le (by omega) (by omega) (by omega) (by omega)]; omega), tkp_n (fun z => c1 z.2.1), tf_f (by show ¬ ((1 : Int) = 0); omega)]
    exact ⟨o, rfl, T16.rf o, N16.rf o, h⟩
theorem rloop_e (hb : BB L B) {bound : Int} (hm : 0 ≤ bound ∧ bound ≤ 2000) (kk : OM → Int32 → Option (Int32 × OM)) : ∀ (fuel n p : Nat) (o : OM) (v : Int), n + p = L → n < fuel → PR o L B p → 0 ≤ v → v ≤ 2000 → ∃ o1, LX4_readNumber_78 kk (I bound) fuel o (I v) = kk o1 (I (nlp B L bound 0 n p v).2) ∧ T16 o o1 ∧ N16 o o1 ∧ PR o1 L B (nlp B L bound 0 n p v).1 := by
  have hL := hb.1
  intro fuel
  induction fuel with
  | zero => intro n p o v h1 h2; omega
  | succ fuel ih =>
    intro n p o v h1 h2 h h3 h4
    have hd := nextDigit_e h hb (by omega)
    rw [LX4_readNumber_78.eq_2]
    dsimp only
    rw [h.1.1, h.2, show (10 : Int32) = I 10 from rfl, show (0 : Int32) = I 0 from rfl, show (-1 : Int32) = I (-1) from rfl, show (1 : Int32) = I 1 from rfl]
    have stop : ¬ (0 < v ∧ (0 : Int) = 0 ∧ p < L ∧ 48 ≤ B p ∧ B p ≤ 57 ∧ 10 * v + B p - 48 ≤ bound) → nlp B L bound 0 n p v = (p, v) := by
      intro c
      cases n with
      | zero => rfl
      | succ n => unfold nlp; rw [if_neg c]
    by_cases c0 : p < L
    · have el : ltr B L p = B p := by unfold ltr; rw [if_pos c0]
      rw [if_neg (by rw [I_le (by omega) (by omega) (by omega) (by omega)]; omega)]
      by_cases c1 : v ≤ 0
      · rw [stop (by omega), if_pos (by rw [I_le (by omega) (by omega) (by omega) (by omega)]; exact c1)]
        exact ⟨o, rfl, T16.rf o, N16.rf o, h⟩
      · rw [if_neg (by rw [I_le (by omega) (by omega) (by omega) (by omega)]; exact c1), hd, bq_e, bq_e, bq_e]
        by_cases c2 : 48 ≤ B p ∧ B p ≤ 57
        · have ed : dgt B L p = B p - 48 := by unfold dgt; rw [el, if_pos c2]
          rw [ed, if_neg (fun z => by have := I_inj (by omega) (by omega) (by omega) (by omega) z; omega), I_mul, I_add, show v * 10 + (B p - 48) = 10 * v + B p - 48 from by omega]
          by_cases c3 : 10 * v + B p - 48 ≤ bound
          · rw [if_neg (by rw [I_lt (by omega) (by omega) (by omega) (by omega)]; omega), bd_e, I_add, bd_e]
            obtain ⟨n', rfl⟩ : ∃ n', n = n' + 1 := ⟨n - 1, by omega⟩
            have t : T16 o (wr o 16 0 2 (I ((p : Int) + 1))) := (T16.rf o).w2
            obtain ⟨o1, e1, f1, n1, m1⟩ := ih n' (p + 1) (wr o 16 0 2 (I ((p : Int) + 1))) (10 * v + B p - 48) (by omega) (by omega) ⟨h.1.t t, rd_wr _ _ _ _ _⟩ (by omega) (by omega)
            have es : nlp B L bound 0 (n' + 1) p v = nlp B L bound 0 n' (p + 1) (10 * v + B p - 48) := by
              rw [nlp.eq_2]
              exact if_pos (by omega)
            rw [es]
            exact ⟨o1, e1, t.tr f1, ((N16.rf o).w2).tr n1, m1⟩
          · rw [stop (by omega), if_pos (by rw [I_lt (by omega) (by omega) (by omega) (by omega)]; omega)]
            exact ⟨o, rfl, T16.rf o, N16.rf o, h⟩
        · have ed : dgt B L p = -1 := by unfold dgt; rw [el, if_neg c2]
          rw [stop (fun z => c2 ⟨z.2.2.2.1, z.2.2.2.2.1⟩), ed, if_pos rfl]
          exact ⟨o, rfl, T16.rf o, N16.rf o, h⟩
    · rw [stop (by omega), if_pos (by rw [I_le (by omega) (by omega) (by omega) (by omega)]; omega)]
      exact ⟨o, rfl, T16.rf o, N16.rf o, h⟩
theorem keep_e {c : Nat} (hc : rd o 16 0 5 = I (c : Int)) (hc3 : c < 3) (v : Int) : F_X4_keepNumber o (I v) = some ((), wr (wr o 18 0 c (I v)) 16 0 5 (I ((c : Int) + 1))) := by
  unfold F_X4_keepNumber
  rw [hc, bd_e, show (3 : Int32) = I 3 from rfl, show (1 : Int32) = I 1 from rfl, if_neg (by rw [I_le (by omega) (by omega) (by omega) (by omega)]; omega), I_inB (a := (c : Int)) (by omega) (by omega) (by omega), grd_e, I_tcN (by omega), bd_e, rd_wk _ _ (by omega), hc, I_add, bd_e]
theorem rcore_y (h : PR o L B p) (hb : BB L B) {c : Nat} (hc : rd o 16 0 5 = I (c : Int)) (hc3 : c < 3) {s bound low : Int} (hs : s = 0 ∨ s = 1) (hm : 0 ≤ bound ∧ bound ≤ 2000) (hl : low = 0 ∨ low = 1) {F : Nat} (hF : 100 < F) (hp : p < L) (ok : 48 + low ≤ B p ∧ B p ≤ 57 ∧ B p ≤ 48 + bound) : ∃ o1,
    (bq (F_X4_nextDigit o) (fun r_5 => bd (fun (_ : Unit) => grd (isZ (I 0)) (some (I 0, o))) (fun k66 => if r_5 < I low then (k66 ()) else (if r_5 ≤ I bound then (bd (wr o 16 0 2 ((rd o 16 0 2) + (I 1))) (fun o_6 : OM => bd (fun (o_8 : OM) (v6_7 : Int32) => bd (fun (s_9 : Int32) => bn (F_X4_keepNumber o_8 s_9) (fun _ o_11 => grd (isZ (I 1)) (some ((I 1), o_11)))) (fun k155 => if I s = I 0 then (k155 v6_7) else (k155 (-v6_7)))) (fun k142 => LX4_readNumber_78 k142 (I bound) F o_6 r_5))) else (k66 ()))))) = some (I 1, o1) ∧ T16 o o1 ∧ PR o1 L B (nlp B L bound 0 (L - (p + 1)) (p + 1) (B p - 48)).1 ∧ rd o1 16 0 5 = I ((c + 1 : Nat) : Int) ∧ rd o1 18 0 c = I (if s = 0 then (nlp B L bound 0 (L - (p + 1)) (p + 1) (B p - 48)).2 else -(nlp B L bound 0 (L - (p + 1)) (p + 1) (B p - 48)).2) ∧ ∀ j, j ≠ c → rd o1 18 0 j = rd o 18 0 j := by
  have hL := hb.1
  have el : ltr B L p = B p := by unfold ltr; rw [if_pos hp]
  have ed : dgt B L p = B p - 48 := by unfold dgt; rw [el, if_pos (by omega)]
  have hd := nextDigit_e h hb (by omega)
  rw [ed] at hd
  have t : T16 o (wr o 16 0 2 (I ((p : Int) + 1))) := (T16.rf o).w2
  obtain ⟨o1, e1, f1, n1, m1⟩ := rloop_e hb hm (fun (o_8 : OM) (v6_7 : Int32) => bd (fun (s_9 : Int32) => bn (F_X4_keepNumber o_8 s_9) (fun _ o_11 => grd (isZ (I 1)) (some ((I 1), o_11)))) (fun k155 => if I s = I 0 then (k155 v6_7) else (k155 (-v6_7)))) F (L - (p + 1)) (p + 1) (wr o 16 0 2 (I ((p : Int) + 1))) (B p - 48) (by omega) (by omega) ⟨h.1.t t, rd_wr _ _ _ _ _⟩ (by omega) (by omega)
  obtain ⟨z, hz⟩ : ∃ z, z = nlp B L bound 0 (L - (p + 1)) (p + 1) (B p - 48) := ⟨_, rfl⟩
  rw [← hz] at e1 m1 ⊢
  have q5 : rd o1 16 0 5 = I (c : Int) := by rw [n1.1, rd_wj _ _ (by omega)]; exact hc
  obtain ⟨u, hu⟩ : ∃ u, u = (if s = 0 then z.2 else -z.2) := ⟨_, rfl⟩
  obtain ⟨o2, ho2⟩ : ∃ o2, o2 = wr (wr o1 18 0 c (I u)) 16 0 5 (I ((c : Int) + 1)) := ⟨_, rfl⟩
  have hk := keep_e q5 hc3 u
  rw [← ho2] at hk
  have t2 : T16 o1 o2 := by
    rw [ho2]
    exact ⟨fun k i x y => by rw [wr_ne _ _ (by omega), wr_ne _ _ (by omega)], rfl, by rw [rd_wj _ _ (by omega), rd_wk _ _ (by omega)], by rw [rd_wj _ _ (by omega), rd_wk _ _ (by omega)]⟩
  refine ⟨o2, ?_, (t.tr f1).tr t2, ⟨m1.1.t t2, by rw [ho2, rd_wj _ _ (by omega), rd_wk _ _ (by omega)]; exact m1.2⟩, by rw [ho2, rd_wr]; rfl, by rw [ho2, rd_wk _ _ (by omega), rd_wr, hu], fun j hj => by rw [ho2, rd_wk _ _ (by omega), rd_wj _ _ hj, n1.2, rd_wk _ _ (by omega)]⟩
  rw [hd, bq_e, bd_e, if_neg (by rw [I_lt (by omega) (by omega) (by omega) (by omega)]; omega), if_pos (by rw [I_le (by omega) (by omega) (by omega) (by omega)]; omega), h.2, I_add, bd_e, bd_e]
  refine e1.trans ?_
  rw [bd_e]
  rcases hs with rfl | rfl
  · rw [if_pos rfl] at hu
    rw [if_pos rfl, ← hu]
    dsimp only
    rw [hk, bn_e, isZ1, grd_e]
  · rw [if_neg (by omega)] at hu
    rw [if_neg (by decide), I_neg, ← hu]
    dsimp only
    rw [hk, bn_e, isZ1, grd_e]
theorem rcore_n (h : PR o L B p) (hb : BB L B) (hp : p ≤ L) {s bound low : Int} (hm : 0 ≤ bound ∧ bound ≤ 2000) (hl : low = 0 ∨ low = 1) {F : Nat} (ok : ¬ (p < L ∧ 48 + low ≤ B p ∧ B p ≤ 57 ∧ B p ≤ 48 + bound)) :
    (bq (F_X4_nextDigit o) (fun r_5 => bd (fun (_ : Unit) => grd (isZ (I 0)) (some (I 0, o))) (fun k66 => if r_5 < I low then (k66 ()) else (if r_5 ≤ I bound then (bd (wr o 16 0 2 ((rd o 16 0 2) + (I 1))) (fun o_6 : OM => bd (fun (o_8 : OM) (v6_7 : Int32) => bd (fun (s_9 : Int32) => bn (F_X4_keepNumber o_8 s_9) (fun _ o_11 => grd (isZ (I 1)) (some ((I 1), o_11)))) (fun k155 => if I s = I 0 then (k155 v6_7) else (k155 (-v6_7)))) (fun k142 => LX4_readNumber_78 k142 (I bound) F o_6 r_5))) else (k66 ()))))) = some (I 0, o) := by
  have hd := nextDigit_e h hb hp
  have dl : -1 ≤ dgt B L p ∧ dgt B L p ≤ 9 ∧ (dgt B L p < low ∨ bound < dgt B L p) := by
    unfold dgt ltr
    by_cases c : p < L
    · rw [if_pos c]
      split <;> omega
    · rw [if_neg c, if_neg (by omega)]
      omega
  rw [hd, bq_e, bd_e]
  by_cases c : dgt B L p < low
  · rw [if_pos (by rw [I_lt (by omega) (by omega) (by omega) (by omega)]; exact c)]
    dsimp only
    rw [isZ0, grd_e]
  · rw [if_neg (by rw [I_lt (by omega) (by omega) (by omega) (by omega)]; exact c), if_neg (by rw [I_le (by omega) (by omega) (by omega) (by omega)]; omega)]
    dsimp only
    rw [isZ0, grd_e]
theorem rnum_0 (h : PR o L B p) (hb : BB L B) (hp : p ≤ L) {c : Nat} (hc : rd o 16 0 5 = I (c : Int)) (hc3 : c < 3) {least bound : Int} (hl : least = 0 ∨ least = 1) (hm : 0 ≤ bound ∧ bound ≤ 2000) : ((p < L ∧ 48 + least ≤ B p ∧ B p ≤ 57 ∧ B p ≤ 48 + bound) ∧ ∃ o1, F_X4_readNumber o (I least) (I bound) = some (I 1, o1) ∧ T16 o o1 ∧ PR o1 L B (nlp B L bound 0 (L - (p + 1)) (p + 1) (B p - 48)).1 ∧ rd o1 16 0 5 = I ((c + 1 : Nat) : Int) ∧ rd o1 18 0 c = I (nlp B L bound 0 (L - (p + 1)) (p + 1) (B p - 48)).2 ∧ ∀ j, j ≠ c → rd o1 18 0 j = rd o 18 0 j) ∨
    (¬ (p < L ∧ 48 + least ≤ B p ∧ B p ≤ 57 ∧ B p ≤ 48 + bound) ∧ F_X4_readNumber o (I least) (I bound) = some (I 0, o)) := by
  have hL := hb.1
  have hFU : 100 < FU := by unfold FU; omega
  have hx : F_J9_max_7cf53 o (I least) (I 0) = some (I least) := by
    rw [max_e o (by omega) (by omega) (by omega) (by omega), Int.max_eq_left (by omega)]
  by_cases ok : p < L ∧ 48 + least ≤ B p ∧ B p ≤ 57 ∧ B p ≤ 48 + bound
  · left
    refine ⟨ok, ?_⟩
    unfold F_X4_readNumber
    generalize FU = F at hFU ⊢
    obtain ⟨o1, e1, r1⟩ := rcore_y h hb hc hc3 (s := 0) (Or.inl rfl) hm hl hFU ok.1 ok.2
    rw [if_pos rfl] at r1
    refine ⟨o1, ?_, r1⟩
    simp only [I_lit]
    rw [bd_e, bd_e, if_pos (by rw [I_le (by omega) (by omega) (by omega) (by omega)]; omega)]
    dsimp only
    rw [bd_e, if_pos rfl]
    dsimp only
    rw [bd_e, if_pos rfl, hx, bq_e]
    exact e1
  · right
    refine ⟨ok, ?_⟩
    unfold F_X4_readNumber
    generalize FU = F at hFU ⊢
    have e1 := rcore_n h hb hp (s := 0) hm hl (F := F) ok
    simp only [I_lit]
    rw [bd_e, bd_e, if_pos (by rw [I_le (by omega) (by omega) (by omega) (by omega)]; omega)]
    dsimp only
    rw [bd_e, if_pos rfl]
    dsimp only
    rw [bd_e, if_pos rfl, hx, bq_e]
    exact e1
theorem nlp_short {bound v : Int} (hv : 0 ≤ v) (hb : bound < 9) (h9 : v ≤ bound) (hB : BB L B) : ∀ n p, nlp B L bound 0 n p v = (p, v)
  | 0, p => rfl
  | n + 1, p => by
    unfold nlp
    rw [if_neg (by omega)]
theorem rnum_t (h : PR o L B p) (hb : BB L B) (hp : p ≤ L) {c : Nat} (hc : rd o 16 0 5 = I (c : Int)) (hc3 : c < 3) {bound : Int} (hm : 0 ≤ bound ∧ bound < 9) : Sg (F_X4_readNumber o (I 0) (I bound)) o L B c (tkp B L 48 (48 + bound) p 0) := by
  rcases rnum_0 h hb hp hc hc3 (least := 0) (Or.inl rfl) (bound := bound) (by omega) with ⟨ok, o1, e1, t1, p1, c1, v1, k1⟩ | ⟨ok, e1⟩
  · rw [tkp_y ⟨rfl, ok.1, by omega, by omega⟩]
    rw [nlp_short (by omega) (by omega) (by omega) hb] at p1 v1
    exact ⟨o1, by rw [tf_t rfl]; exact e1, t1, p1, fun _ => ⟨c1, v1, k1⟩⟩
  · rw [tkp_n (fun z => ok ⟨z.2.1, by omega, by omega, by omega⟩)]
    exact ⟨o, by rw [tf_f (by show ¬ ((1 : Int) = 0); omega)]; exact e1, T16.rf o, h, fun z => absurd z (by show ¬ ((1 : Int) = 0); omega)⟩
theorem nmp_y {least most : Int} (hl : least = 0 ∨ least = 1) (h : p < L ∧ 48 + least ≤ B p ∧ B p ≤ 57) : nmp B L least most p 0 = ((nlp B L most 0 (L - (p + 1)) (p + 1) (B p - 48)).1, 0, (nlp B L most 0 (L - (p + 1)) (p + 1) (B p - 48)).2) := by
  unfold nmp
  rw [tkp_y ⟨rfl, h.1, h.2.1, h.2.2⟩]
  unfold nmr
  dsimp only
  rw [show least + (B p - (48 + least)) = B p - 48 from by omega]
theorem nmp_n {least most : Int} {w : Int} (hp : p ≤ L) (h : ¬ (w = 0 ∧ p < L ∧ 48 + least ≤ B p ∧ B p ≤ 57)) : (nmp B L least most p w).1 = p ∧ (nmp B L least most p w).2.1 = 1 := by
  unfold nmp
  rw [tkp_n h]
  obtain ⟨n1, n2, n3, n4, n5⟩ := nlp_rg (B := B) (L := L) most 1 (L - p) p (least + 0) (by omega)
  exact ⟨n3 (by omega), rfl⟩
theorem rnum_n (h : PR o L B p) (hb : BB L B) (hp : p ≤ L) {c : Nat} (hc : rd o 16 0 5 = I (c : Int)) (hc3 : c < 3) {least bound : Int} (hl : least = 0 ∨ least = 1) (hm : 9 ≤ bound ∧ bound ≤ 2000) : Sg (F_X4_readNumber o (I least) (I bound)) o L B c (nmp B L least bound p 0) := by
  rcases rnum_0 h hb hp hc hc3 hl (bound := bound) (by omega) with ⟨ok, o1, e1, t1, p1, c1, v1, k1⟩ | ⟨ok, e1⟩
  · rw [nmp_y hl ⟨ok.1, ok.2.1, ok.2.2.1⟩]
    exact ⟨o1, by rw [tf_t rfl]; exact e1, t1, p1, fun _ => ⟨c1, v1, k1⟩⟩
  · obtain ⟨n1, n2⟩ := nmp_n (B := B) (least := least) (most := bound) (w := 0) hp (fun z => ok ⟨z.2.1, z.2.2.1, z.2.2.2, by omega⟩)
    refine ⟨o, by rw [n2, tf_f (by omega)]; exact e1, T16.rf o, by rw [n1]; exact h, fun z => by omega⟩
theorem rnum_s (h : PR o L B p) (hb : BB L B) (hp : p ≤ L) {c : Nat} (hc : rd o 16 0 5 = I (c : Int)) (hc3 : c < 3) {low most : Int} (hl : 9 ≤ low ∧ low ≤ 2000) (hm : 9 ≤ most ∧ most ≤ 2000) : Sg (F_X4_readNumber o (I (-low)) (I most)) o L B c (sgp B L low most p 0) := by
  have hL := hb.1
  have hFU : 100 < FU := by unfold FU; omega
  obtain ⟨o2, e2, t2, n2, p2⟩ := rsign_e h hb hp (c := 45) (by omega)
  have hc2 : rd o2 16 0 5 = I (c : Int) := n2.1.trans hc
  have hx : F_J9_max_7cf53 o2 (I (-low)) (I 0) = some (I 0) := by
    rw [max_e o2 (by omega) (by omega) (by omega) (by omega), Int.max_eq_right (by omega)]
  unfold Sg F_X4_readNumber
  generalize FU = F at hFU ⊢
  simp only [I_lit]
  rw [bd_e, bd_e, if_neg (by rw [I_le (by omega) (by omega) (by omega) (by omega)]; omega), e2, bn_e]
  by_cases k : p < L ∧ B p = 45
  · have ek : tkp B L 45 45 p 0 = (p + 1, 0, B p - 45) := tkp_y ⟨rfl, k.1, by omega, by omega⟩
    rw [ek] at p2 ⊢
    have p2 : PR o2 L B (p + 1) := p2
    have es : sgp B L low most p 0 = ngt (nmp B L 1 low (p + 1) 0) := if_pos ⟨rfl, k.1, by omega, by omega⟩
    rw [es, tf_t rfl, if_neg (by decide)]
    dsimp only
    rw [bd_e, if_neg (by decide)]
    dsimp only
    rw [bd_e, if_neg (by decide), I_neg, show - -low = low from by omega]
    by_cases ok : p + 1 < L ∧ 48 + 1 ≤ B (p + 1) ∧ B (p + 1) ≤ 57 ∧ B (p + 1) ≤ 48 + low
    · obtain ⟨o1, e1, t1, p1, c1, v1, k1⟩ := rcore_y p2 hb hc2 hc3 (s := 1) (bound := low) (low := 1) (Or.inr rfl) (by omega) (Or.inr rfl) hFU ok.1 ok.2
      rw [if_neg (by omega)] at v1
      rw [nmp_y (Or.inr rfl) ⟨ok.1, ok.2.1, ok.2.2.1⟩]
      obtain ⟨N, hN⟩ : ∃ N, N = nlp B L low 0 (L - (p + 1 + 1)) (p + 1 + 1) (B (p + 1) - 48) := ⟨_, rfl⟩
      rw [← hN] at p1 v1 ⊢
      have e0 : (ngt (N.1, 0, N.2)).2.1 = 0 := rfl
      exact ⟨o1, by rw [tf_t e0]; exact e1, t2.tr t1, p1, fun _ => ⟨c1, v1, fun j hj => (k1 j hj).trans (n2.2 j)⟩⟩
    · have e1 := rcore_n p2 hb (by omega) (s := 1) (bound := low) (low := 1) (by omega) (Or.inr rfl) (F := F) ok
      obtain ⟨m1, m2⟩ := nmp_n (B := B) (least := 1) (most := low) (w := 0) (show p + 1 ≤ L by omega) (fun z => ok ⟨z.2.1, z.2.2.1, z.2.2.2, by omega⟩)
      have m1' : (ngt (nmp B L 1 low (p + 1) 0)).1 = p + 1 := m1
      have m2' : (ngt (nmp B L 1 low (p + 1) 0)).2.1 = 1 := m2
      exact ⟨o2, by rw [m2', tf_f (by omega)]; exact e1, t2, by rw [m1']; exact p2, fun z => by omega⟩
  · have ek : tkp B L 45 45 p 0 = (p, 1, 0) := tkp_n (fun z => k ⟨z.2.1, by omega⟩)
    rw [ek] at p2 ⊢
    have p2 : PR o2 L B p := p2
    have es : sgp B L low most p 0 = nmp B L 0 most p 0 := if_neg (fun z => k ⟨z.2.1, by omega⟩)
    rw [es, tf_f (by show ¬ ((1 : Int) = 0); omega), if_pos rfl]
    dsimp only
    rw [bd_e, if_pos rfl]
    dsimp only
    rw [bd_e, if_pos rfl, hx, bq_e]
    by_cases ok : p < L ∧ 48 + 0 ≤ B p ∧ B p ≤ 57 ∧ B p ≤ 48 + most
    · obtain ⟨o1, e1, t1, p1, c1, v1, k1⟩ := rcore_y p2 hb hc2 hc3 (s := 0) (bound := most) (low := 0) (Or.inl rfl) (by omega) (Or.inl rfl) hFU ok.1 ok.2
      rw [if_pos rfl] at v1
      rw [nmp_y (Or.inl rfl) ⟨ok.1, ok.2.1, ok.2.2.1⟩]
      exact ⟨o1, by rw [tf_t rfl]; exact e1, t2.tr t1, p1, fun _ => ⟨c1, v1, fun j hj => (k1 j hj).trans (n2.2 j)⟩⟩
    · have e1 := rcore_n p2 hb hp (s := 0) (bound := most) (low := 0) (by omega) (Or.inl rfl) (F := F) ok
      obtain ⟨m1, m2⟩ := nmp_n (B := B) (least := 0) (most := most) (w := 0) hp (fun z => ok ⟨z.2.1, z.2.2.1, z.2.2.2, by omega⟩)
      exact ⟨o2, by rw [m2, tf_f (by omega)]; exact e1, t2, by rw [m1]; exact p2, fun z => by omega⟩
end
