/-! of points in order: neighbours, depths, the line through a point itself -/
section
variable {r d y : Nat → Int} {n : Nat}
theorem dep_pos (r : Nat → Int) (k : Nat) : 1 ≤ dep r k := by unfold dep; omega
theorem dep_0 (r : Nat → Int) : dep r 0 = 1 := rfl
theorem vs_0 (r : Nat → Int) (x : Int) : vs r x 0 = true := vs_iff.mpr (fun i hi => by omega)
theorem cnt_one {p : Nat → Bool} {n j : Nat} (hj : j < n) (hp : p j = true) : cnt p j + 1 ≤ cnt p n := by
  induction n with
  | zero => omega
  | succ n ih =>
    show _ ≤ cnt p n + (if p n = true then 1 else 0)
    by_cases e : j = n
    · subst e
      rw [if_pos hp]
      exact Nat.le_refl _
    · have := ih (by omega)
      omega
theorem dep_2 (r : Nat → Int) {k : Nat} (hk : 0 < k) : 2 ≤ dep r k := by
  have := cnt_one (p := fun i => vs r (r k) i) hk (vs_0 r (r k))
  unfold dep
  omega
/-- of two neighbours the later hangs below the earlier -/
theorem dep_near (hd : Ds r n) {a b : Nat} (ha : a < b) (hb : b < n) (hadj : ∀ i, i < n → ¬ (r a < r i ∧ r i < r b) ∧ ¬ (r b < r i ∧ r i < r a)) : dep r a < dep r b := by
  have same : ∀ j, j < a → (r j ≤ r a ↔ r j ≤ r b) := fun j hj => by
    have h1 := hadj j (by omega)
    have h2 : r j ≠ r a := fun e => by have := hd j a (by omega) (by omega) e; omega
    have h3 : r j ≠ r b := fun e => by have := hd j b (by omega) (by omega) e; omega
    omega
  have anc : Vs r (r b) a := fun i hi => by
    have h1 := same i hi
    have h2 : r i ≠ r a := fun e => by have := hd i a (by omega) (by omega) e; omega
    omega
  have h1 := cnt_one (p := fun i => vs r (r b) i) ha (vs_iff.mpr anc)
  have h2 : cnt (fun i => vs r (r a) i) a = cnt (fun i => vs r (r b) i) a := by
    apply cnt_c
    intro i hi
    have : Vs r (r a) i ↔ Vs r (r b) i := by
      constructor
      · intro h j hj
        have a1 := h j hj
        have a2 := same j (by omega)
        omega
      · intro h j hj
        have a1 := h j hj
        have a2 := same j (by omega)
        omega
    by_cases g : Vs r (r a) i
    · rw [vs_iff.mpr g, vs_iff.mpr (this.mp g)]
    · have x1 : ¬ vs r (r a) i = true := fun z => g (vs_iff.mp z)
      have x2 : ¬ vs r (r b) i = true := fun z => g (this.mpr (vs_iff.mp z))
      rw [Bool.not_eq_true] at x1 x2
      rw [x1, x2]
  unfold dep
  omega
theorem last_true {p : Nat → Bool} {k : Nat} (hk : 0 < k) (h0 : p 0 = true) : ∃ c, c < k ∧ p c = true ∧ ∀ i, c < i → i < k → ¬ p i = true := by
  induction k with
  | zero => omega
  | succ k ih =>
    by_cases h : p k = true
    · exact ⟨k, by omega, h, fun i h1 h2 => by omega⟩
    · by_cases hk0 : k = 0
      · subst hk0
        exact absurd h0 h
      · obtain ⟨c, c1, c2, c3⟩ := ih (by omega)
        refine ⟨c, by omega, c2, fun i h1 h2 => ?_⟩
        by_cases e : i = k
        · rw [e]; exact h
        · exact c3 i h1 (by omega)
/-- above every point but the first hangs one, a step less deep -/
theorem dep_par (hd : Ds r n) {k : Nat} (hk : 0 < k) (hkn : k < n) : ∃ c, c < k ∧ dep r k = dep r c + 1 := by
  have hd' : Ds r (k + 1) := fun i j hi hj e => hd i j (by omega) (by omega) e
  have hdk : Ds r k := fun i j hi hj e => hd i j (by omega) (by omega) e
  obtain ⟨c, c1, c2, c3⟩ := last_true (p := fun i => vs r (r k) i) hk (vs_0 r (r k))
  have hv := vs_iff.mp c2
  refine ⟨c, c1, leaf_dep hd' c1 hv ?_⟩
  have rg := ch_rg (decide (r k < r c)) r c k
  rcases Classical.em (ch (decide (r k < r c)) r c k = -1) with h | h
  · exact h
  · exfalso
    obtain ⟨b, hb⟩ : ∃ b : Nat, ch (decide (r k < r c)) r c k = (b : Int) := ⟨(ch (decide (r k < r c)) r c k).toNat, by omega⟩
    obtain ⟨g1, g2, g3, -⟩ := step_some (x := r k) hdk c1 hv hb
    exact c3 b g1 g2 (vs_iff.mpr g3)
/-- every depth down to 1 is met -/
theorem dep_all (hd : Ds r n) : ∀ (m k : Nat), k < n → m + 1 ≤ dep r k → ∃ k', k' < n ∧ dep r k' = m + 1 := by
  intro m k
  induction k using Nat.strongRecOn with
  | ind k ih =>
    intro hk hm
    by_cases e : dep r k = m + 1
    · exact ⟨k, hk, e⟩
    · have hk0 : 0 < k := by
        rcases Nat.eq_zero_or_pos k with h | h
        · subst h
          rw [dep_0] at hm e
          omega
        · exact h
      obtain ⟨c, c1, c2⟩ := dep_par hd hk0 hk
      exact ih c c1 (by omega) (by omega)
theorem oi_rank (hd : Ds r n) {k : Nat} (hk : k < n) : oi r n (rank r n k) = k := (oi_u hd hk rfl).symm
theorem oi_lt (hs : Sj r n) {p : Nat} (hp : p + 1 < n) : r (oi r n p) < r (oi r n (p + 1)) ∧ ∀ i, i < n → ¬ (r (oi r n p) < r i ∧ r i < r (oi r n (p + 1))) := by
  have g1 := oi_sp hs (p := p) (by omega)
  have g2 := oi_sp hs (p := p + 1) hp
  exact rank_adj g1.1 g2.1 (by rw [g1.2, g2.2])
theorem dep_ne (hd : Ds r n) (hs : Sj r n) {p : Nat} (hp : p + 1 < n) : dep r (oi r n p) ≠ dep r (oi r n (p + 1)) := by
  obtain ⟨h1, h2⟩ := oi_lt hs hp
  have g1 := (oi_sp hs (p := p) (by omega)).1
  have g2 := (oi_sp hs (p := p + 1) hp).1
  rcases Nat.lt_trichotomy (oi r n p) (oi r n (p + 1)) with h | h | h
  · have := dep_near hd h g2 (fun i hi => ⟨h2 i hi, fun z => by omega⟩)
    omega
  · rw [h] at h1
    omega
  · have := dep_near hd h g1 (fun i hi => ⟨fun z => by omega, h2 i hi⟩)
    omega
theorem mx_ge {f : Nat → Int} : ∀ {n k : Nat}, k < n → f k ≤ mx f n
  | 0, k, h => by omega
  | n + 1, k, h => by
    show f k ≤ max (mx f n) (f n)
    by_cases e : k = n
    · rw [e]; exact Int.le_max_right _ _
    · exact Int.le_trans (mx_ge (n := n) (by omega)) (Int.le_max_left _ _)
theorem mx_0 (f : Nat → Int) : ∀ n, 0 ≤ mx f n
  | 0 => Int.le_refl _
  | n + 1 => Int.le_trans (mx_0 f n) (Int.le_max_left _ _)
theorem mx_oi (hd : Ds r n) (hs : Sj r n) (f : Nat → Int) : mx (fun p => f (oi r n p)) n = mx f n := by
  apply Int.le_antisymm
  · exact (mx_rg (mx_0 f n) (fun p hp => mx_ge (oi_sp hs hp).1)).2
  · refine (mx_rg (mx_0 _ n) (fun k hk => ?_)).2
    have := mx_ge (f := fun p => f (oi r n p)) (n := n) (k := rank r n k) (rank_lt hk)
    rw [oi_rank hd hk] at this
    exact this
/-- how many places hold a point of depth 1 -/
def rts (r : Nat → Int) (n : Nat) : Nat → Int := sm (fun p => if dep r (oi r n p) = 1 then 1 else 0)
theorem rts_e (hd : Ds r n) (hs : Sj r n) : ∀ i, i ≤ n → rts r n i = if 0 < n ∧ rank r n 0 < i then 1 else 0 := by
  intro i
  induction i with
  | zero => intro h; rw [if_neg (by omega)]; rfl
  | succ i ih =>
    intro hi
    have e : rts r n (i + 1) = rts r n i + if dep r (oi r n i) = 1 then 1 else 0 := rfl
    rw [e, ih (by omega)]
    have g := oi_sp hs (p := i) (by omega)
    by_cases c : oi r n i = 0
    · have hr : rank r n 0 = i := by rw [← c]; exact g.2
      rw [c, dep_0, if_pos rfl, if_neg (by omega), if_pos (by omega)]
      rfl
    · have h2 := dep_2 r (k := oi r n i) (by omega)
      have hr : rank r n 0 ≠ i := fun z => c (by
        have := oi_rank hd (k := 0) (by omega)
        rw [z] at this
        exact this)
      rw [if_neg (show ¬ dep r (oi r n i) = 1 by omega)]
      by_cases h : 0 < n ∧ rank r n 0 < i
      · rw [if_pos h, if_pos (by omega)]
        rfl
      · rw [if_neg h, if_neg (by omega)]
        rfl
theorem rts_n (hd : Ds r n) (hs : Sj r n) : rts r n n = if 0 < n then 1 else 0 := by
  rw [rts_e hd hs n (Nat.le_refl _)]
  by_cases h : 0 < n
  · rw [if_pos ⟨h, rank_lt h⟩, if_pos h]
  · rw [if_neg (fun z => h z.1), if_neg h]
/-- a point is corrected to its own degree -/
theorem corf_own (hB : PB n r d y) (h2 : 2 ≤ n) (hs : Sj r n) {p : Nat} (hp : p < n) : corf r d n (r (oi r n p)) = d (oi r n p) := by
  symm
  apply corf_u hB h2 hs
  by_cases c : p + 1 < n
  · obtain ⟨l1, l2⟩ := oi_lt hs c
    have g1 := (oi_sp hs (p := p) hp).1
    have g2 := (oi_sp hs (p := p + 1) c).1
    refine ⟨oi r n p, oi r n (p + 1), ⟨g1, g2, l1, l2, Or.inl (Int.le_refl _), Or.inl l1⟩, ?_⟩
    unfold lin
    rw [Int.sub_self, Int.mul_zero, Int.zero_ediv, Int.add_zero]
  · obtain ⟨m, rfl⟩ : ∃ m, p = m + 1 := ⟨p - 1, by omega⟩
    obtain ⟨l1, l2⟩ := oi_lt hs (p := m) (by omega)
    have g1 := (oi_sp hs (p := m) (by omega)).1
    have g2 := oi_sp hs (p := m + 1) hp
    refine ⟨oi r n m, oi r n (m + 1), ⟨g1, g2.1, l1, l2, Or.inl (by omega), Or.inr (rank_top g2.1 (by rw [g2.2]; omega))⟩, ?_⟩
    unfold lin
    rw [Int.mul_ediv_cancel _ (by omega)]
    omega
end
/-! bits -/
def bit (a : Nat) : Int32 := 1 <<< (I (a : Int) &&& 31)
theorem bit_g : ∀ a, a < 11 → ∀ t, t < 32 → (bit a).toBitVec.getLsbD t = decide (t = a) := by decide +kernel
theorem full_g : ∀ m, m < 11 → ∀ t, t < 32 → (bit (m + 1) - 2).toBitVec.getLsbD t = decide (1 ≤ t ∧ t ≤ m) := by decide +kernel
def fl (f : Nat → Nat) : Nat → Int32
  | 0 => 0
  | i + 1 => fl f i ||| bit (f i)
theorem fl_g (f : Nat → Nat) : ∀ (n : Nat), (∀ p, p < n → f p < 11) → ∀ t, t < 32 → ((fl f n).toBitVec.getLsbD t = true ↔ ∃ p, p < n ∧ f p = t)
  | 0, _, t, ht => by
    constructor
    · intro h
      have : (fl f 0).toBitVec.getLsbD t = false := by
        show (0 : Int32).toBitVec.getLsbD t = false
        simp
      rw [this] at h
      cases h
    · intro ⟨p, hp, _⟩
      omega
  | n + 1, hf, t, ht => by
    have ih := fl_g f n (fun p hp => hf p (by omega)) t ht
    have e : (fl f (n + 1)).toBitVec.getLsbD t = ((fl f n).toBitVec.getLsbD t || (bit (f n)).toBitVec.getLsbD t) := by
      show (fl f n ||| bit (f n)).toBitVec.getLsbD t = _
      rw [Int32.toBitVec_or, BitVec.getLsbD_or]
    rw [e, bit_g _ (hf n (by omega)) t ht, Bool.or_eq_true, ih, decide_eq_true_iff]
    constructor
    · rintro (⟨p, h1, h2⟩ | h)
      · exact ⟨p, by omega, h2⟩
      · exact ⟨n, by omega, h.symm⟩
    · rintro ⟨p, h1, h2⟩
      by_cases c : p = n
      · right; rw [← c]; exact h2.symm
      · left; exact ⟨p, by omega, h2⟩
theorem fl_full {f : Nat → Nat} {n m : Nat} (hf : ∀ p, p < n → 1 ≤ f p ∧ f p ≤ m) (hm : m < 11) (hall : ∀ t, 1 ≤ t → t ≤ m → ∃ p, p < n ∧ f p = t) : fl f n = bit (m + 1) - 2 := by
  apply Int32.toBitVec_inj.mp
  apply BitVec.eq_of_getLsbD_eq
  intro t ht
  rw [full_g m hm t ht]
  have h := fl_g f n (fun p hp => by have := hf p hp; omega) t ht
  by_cases c : 1 ≤ t ∧ t ≤ m
  · rw [decide_eq_true c, h]
    exact hall t c.1 c.2
  · rw [decide_eq_false c]
    apply Bool.eq_false_iff.mpr
    intro z
    obtain ⟨p, h1, h2⟩ := h.mp z
    have := hf p h1
    omega
