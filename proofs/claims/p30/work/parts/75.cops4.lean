/-! the program breaks a thermometer; years pass -/
theorem brkS_228 (S : Int → Int) (g : Nat) : brkS S g 228 = S 228 - 1 := if_pos rfl
theorem brkS_hi (S : Int → Int) (g : Nat) {a : Int} (h : 190 ≤ a) (h2 : a ≠ 228) : brkS S g a = S a := by
  unfold brkS
  rw [if_neg h2, if_neg (by omega)]
theorem brkS_lo (S : Int → Int) (g : Nat) {a : Int} (h : a < 38 * (g : Int)) (h2 : a ≠ 228) : brkS S g a = S a := by
  unfold brkS
  rw [if_neg h2, if_neg (by omega)]
theorem brkS_sh (S : Int → Int) (g : Nat) {a : Int} (h : 38 * (g : Int) ≤ a) (h2 : a < 190) : brkS S g a = S (a + 38) := by
  unfold brkS
  rw [if_neg (by omega), if_pos (by omega)]
theorem brkS_gm (S : Int → Int) (g : Nat) (h : S 228 = (gm S : Int)) : gm (brkS S g) = gm S - 1 := by
  have e : gm (brkS S g) = (brkS S g 228).toNat := rfl
  rw [e, brkS_228, h]
  omega
theorem rem_loop {m : Nat} (hm : m ≤ 6) (kk : OM → Option (Unit × OM)) : ∀ (fuel i : Nat) (o : OM), m < i + fuel → i + 1 ≤ m → rd o 1 0 2 = I (m : Int) → (∀ h, h < 6 → ∃ v : Nat, v < 6 ∧ rd o 4 0 h = I (v : Int)) → ∃ o1, LX2_removeThermometer_18 kk 0 fuel o (I (i : Int)) = kk o1 ∧ (∀ k t, ¬ (k = 4 ∧ t = 0) → o1.1 k t = o.1 k t) ∧ o1.2 = o.2 ∧ ∀ h : Nat, rd o1 4 0 h = if i ≤ h ∧ h + 1 < m then rd o 4 0 (h + 1) else rd o 4 0 h := by
  intro fuel
  induction fuel with
  | zero => intro i o h1 h2; omega
  | succ fuel ih =>
    intro i o h1 h2 h3 hv
    rw [LX2_removeThermometer_18.eq_2]
    have z1 : (1 : Int32) = I 1 := rfl
    by_cases c : (m : Int) - 1 ≤ (i : Int)
    · refine ⟨o, ?_, fun _ _ _ => rfl, rfl, fun h => by rw [if_neg (by omega)]⟩
      dsimp only
      rw [h3, z1, I_sub, if_pos (by rw [I_le (by omega) (by omega) (by omega) (by omega)]; exact c)]
    · obtain ⟨v, v1, v2⟩ := hv (i + 1) (by omega)
      have et : tid 0 (rd o 4 0 (i + 1)) = v := by
        unfold tid
        rw [v2, I_tcN (by omega)]
        omega
      have ed : decide (v / 6 = 0) = true := decide_eq_true (by omega)
      have en : nI (v % 6) = rd o 4 0 (i + 1) := by rw [v2, I_nI, Nat.mod_eq_of_lt v1]
      obtain ⟨o1, e1, f1, g1, r1⟩ := ih (i + 1) (wr o 4 0 i (rd o 4 0 (i + 1))) (by omega) (by omega) (by rw [rd_wk _ _ (by omega)]; exact h3) (fun h hh => by
        by_cases e : h = i
        · rw [e, rd_wr]; exact hv (i + 1) (by omega)
        · rw [rd_wj _ _ e]; exact hv h hh)
      refine ⟨o1, ?_, fun k t hk => (f1 k t hk).trans (wr_ne _ _ (by omega)), g1, fun h => ?_⟩
      · dsimp only
        rw [h3, z1, I_sub, if_neg (by rw [I_le (by omega) (by omega) (by omega) (by omega)]; exact c), I_add, I_inB (a := (i : Int) + 1) (by omega) (by omega) (by omega), grd_e, show (i : Int) + 1 = ((i + 1 : Nat) : Int) from rfl, I_tcN (by omega), bd_e, et, I_inB (a := (i : Int)) (by omega) (by omega) (by omega), ed, Bool.and_self, grd_e, I_tcN (by omega), en, bd_e, bd_e]
        exact e1
      · rw [r1]
        by_cases e : h = i
        · rw [if_neg (by omega), if_pos (by omega), e, rd_wr]
        · by_cases c2 : i ≤ h ∧ h + 1 < m
          · rw [if_pos (by omega), if_pos c2, rd_wj _ _ (by omega)]
          · rw [if_neg (by omega), if_neg c2, rd_wj _ _ e]
theorem removeTh_e {o : OM} {S : Int → Int} {g Y : Nat} (hC : CS o 0 S) (hB : SB S Y) (hP : PM o 0) (hg : g < gm S) : ∃ o1, F_X2_removeThermometer o 0 (I (g : Int)) = some ((), o1) ∧ Fz o o1 ∧ PM o1 0 ∧ CS o1 0 (brkS S g) := by
  have hm := hB.m
  have hh := has_e hC hB (I (g : Int))
  rw [I_to (by omega) (by omega), tf_t (by omega)] at hh
  obtain ⟨c1, c2, c3, c4, c5, c6, c7, c8⟩ := hC
  rw [hm.1] at c3
  have hv : ∀ h, h < 6 → ∃ v : Nat, v < 6 ∧ rd o 4 0 h = I (v : Int) := fun h x => by
    obtain ⟨v, v1, v2, -⟩ := hP h x
    exact ⟨v, v1, v2⟩
  obtain ⟨w, w1, w2⟩ := hv g (by omega)
  have et : tid 0 (rd o 4 0 g) = w := by
    unfold tid
    rw [w2, I_tcN (by omega)]
    omega
  have ed : decide (w / 6 = 0) = true := decide_eq_true (by omega)
  have en : nI (w % 6) = rd o 4 0 g := by rw [w2, I_nI, Nat.mod_eq_of_lt w1]
  have hFU : 10 < FU := by unfold FU; omega
  unfold F_X2_removeThermometer
  generalize FU = F at hFU ⊢
  obtain ⟨o1, e1, f1, g1, r1⟩ := rem_loop (m := gm S) hm.2 (fun (o_3 : OM) => bd (wr o_3 1 0 2 ((rd o_3 1 0 2) - ((1 : Int32)))) (fun o_4 : OM => grd (inB (rd o_4 1 0 2) 6 && decide (w / 6 = 0)) (bd (wr o_4 4 0 (rd o_4 1 0 2).toNatClampNeg (nI (w % 6))) (fun o_5 : OM => some ((), o_5))))) F g o (by omega) (by omega) c3 hv
  have q2 : rd o1 1 0 2 = I (gm S : Int) := (congrFun (f1 1 0 (by omega)) 2).trans c3
  obtain ⟨M, hM⟩ : ∃ M : Nat, M + 1 = gm S := ⟨gm S - 1, by omega⟩
  obtain ⟨p, hp⟩ : ∃ p, p = wr (wr o1 1 0 2 (I (M : Int))) 4 0 M (rd o 4 0 g) := ⟨_, rfl⟩
  have fo : ∀ k t, ¬ (k = 4 ∧ t = 0) → ¬ (k = 1 ∧ t = 0) → p.1 k t = o.1 k t := fun k t x y => by
    rw [hp, wr_ne _ _ (by omega), wr_ne _ _ (by omega), f1 k t x]
  have p1 : ∀ j, j ≠ 2 → rd p 1 0 j = rd o 1 0 j := fun j hj => by
    rw [hp, rd_wk _ _ (by omega), rd_wj _ _ hj]
    exact congrFun (f1 1 0 (by omega)) j
  obtain ⟨σ, hσ⟩ : ∃ σ : Nat → Nat, ∀ h, σ h = if h = M then g else if g ≤ h ∧ h < M then h + 1 else h := ⟨_, fun _ => rfl⟩
  have r4 : ∀ h, rd p 4 0 h = rd o 4 0 (σ h) := fun h => by
    rw [hp, hσ]
    by_cases e : h = M
    · rw [if_pos e, e, rd_wr]
    · rw [if_neg e, rd_wj _ _ e, rd_wk _ _ (by omega), r1]
      by_cases c : g ≤ h ∧ h < M
      · rw [if_pos (by omega), if_pos c]
      · rw [if_neg (by omega), if_neg c]
  have hσ6 : ∀ h, h < 6 → σ h < 6 := fun h x => by
    rw [hσ]
    split
    · omega
    · split <;> omega
  have hσi : ∀ h h', σ h = σ h' → h = h' := fun h h' e => by
    rw [hσ, hσ] at e
    split at e <;> split at e <;> (try split at e) <;> (try split at e) <;> omega
  refine ⟨p, ?_, ⟨fun k t hk => fo k t (by omega) (by omega), by rw [hp]; exact g1⟩, fun h x => ?_, ?_⟩
  · have z1 : (1 : Int32) = I 1 := rfl
    rw [hh, bq_e, if_neg (by decide), I_inB (a := (g : Int)) (by omega) (by omega) (by omega), grd_e, I_tcN (by omega), bd_e, et, bd_e, e1]
    rw [q2, z1, I_sub, show ((gm S : Int) - 1) = (M : Int) from by omega, bd_e, rd_wr, I_inB (a := (M : Int)) (by omega) (by omega) (by omega), ed, Bool.and_self, grd_e, I_tcN (by omega), en, bd_e, ← hp]
  · obtain ⟨v, v1, v2, v3⟩ := hP (σ h) (hσ6 h x)
    exact ⟨v, v1, by rw [r4]; exact v2, fun h' x' e => hσi _ _ (v3 (σ h') (hσ6 h' x') (by rw [← r4, ← r4]; exact e))⟩
  · refine ⟨by rw [p1 0 (by omega), c1, brkS_hi _ _ (by omega) (by omega)], by rw [p1 1 (by omega), c2, brkS_hi _ _ (by omega) (by omega)], ?_, by rw [p1 3 (by omega), c4, brkS_hi _ _ (by omega) (by omega)], by rw [p1 4 (by omega), c5, brkS_hi _ _ (by omega) (by omega)], fun a x y => ?_, fun a x y => ?_, fun h x => ?_⟩
    · rw [brkS_228, hm.1, hp, rd_wk _ _ (by omega), rd_wr]
      congr 1
      omega
    · rw [brkS_hi _ _ (by omega) (by omega), ← c6 a x y]
      exact congrFun (fo 2 0 (by omega) (by omega)) _
    · rw [brkS_hi _ _ (by omega) (by omega), ← c7 a x y]
      exact congrFun (fo 3 0 (by omega) (by omega)) _
    · rw [brkS_gm S g hm.1] at x
      have hk : ∀ t k, 5 ≤ k → k ≤ 13 → p.1 k t = o.1 k t := fun t k a b => fo k t (by omega) (by omega)
      rw [r4, hσ, if_neg (by omega)]
      by_cases c : g ≤ h ∧ h < M
      · rw [if_pos c]
        exact TC.sh (g := h + 1) ((c8 (h + 1) (by omega)).mm (hk _)) (hB.g (by omega)).p.1 (fun w a b => by rw [brkS_sh _ _ (by omega) (by omega)]; congr 1; omega)
      · rw [if_neg c]
        exact TC.sh (g := h) ((c8 h (by omega)).mm (hk _)) (hB.g (by omega)).p.1 (fun w a b => brkS_lo _ _ (by omega) (by omega))
/-! years -/
theorem creepOf_w {o : OM} {S : Int → Int} {g t : Nat} (hC : CS o 0 S) (t2 : rd o 5 t 2 = I (S (38 * (g : Int) + 2))) (hb : 0 ≤ S (38 * (g : Int) + 2) ∧ S (38 * (g : Int) + 2) ≤ 3) : F_X2_creepOf o 0 t = some (I (S (235 + S (38 * (g : Int) + 2)))) := by
  have hs := hC.2.2.2.2.2.2.1
  have c1 : (S (38 * (g : Int) + 2) < 0) = False := eq_false (by omega)
  have c2 : (3 < S (38 * (g : Int) + 2)) = False := eq_false (by omega)
  unfold F_X2_creepOf
  simp (disch := omega) only [↓bd_e, bq_e, bn_e, grd_e, I_add, I_sub, I_mul, I_neg, isZ0, isZ1, isZ_tf, tf_z, tf_le, I_lit, I_inB, I_tcN, I_lt, I_le, I_eq, ↓reduceIte, not_true_eq_false, not_false_eq_true, nz, t2, c1, c2, hs]
theorem grow_e {o : OM} {S : Int → Int} {g t : Nat} (hT : TC (fun k => o.1 k t) S g) (hn : gn S g ≤ 10) (b3 : 0 ≤ S (38 * (g : Int) + 3) ∧ S (38 * (g : Int) + 3) ≤ 1000000) (bs : 0 ≤ S (235 + S (38 * (g : Int) + 2)) ∧ S (235 + S (38 * (g : Int) + 2)) ≤ 60) : ∃ o1, F_X3_growOlder o t (I (S (235 + S (38 * (g : Int) + 2)))) = some ((), o1) ∧ Ft o o1 t ∧ TC (fun k => o1.1 k t) (growS S g) g := by
  have t3 : rd o 5 t 3 = I (S (38 * (g : Int) + 3)) := hT.2.2.2.1
  have t4 : rd o 5 t 4 = I (S (38 * (g : Int) + 4)) := hT.2.2.2.2.1
  obtain ⟨c, hc⟩ : ∃ c, c = S (235 + S (38 * (g : Int) + 2)) := ⟨_, rfl⟩
  rw [← hc] at bs ⊢
  obtain ⟨p, hp⟩ : ∃ p, p = wr (wr o 5 t 4 (I (S (38 * (g : Int) + 4) + c / (S (38 * (g : Int) + 3) + 1)))) 5 t 3 (I (S (38 * (g : Int) + 3) + 1)) := ⟨_, rfl⟩
  refine ⟨p, ?_, by rw [hp]; exact ((Ft.rf o t).wr (by omega)).wr (by omega), ?_⟩
  · have z1 : (1 : Int32) = I 1 := rfl
    unfold F_X3_growOlder
    rw [t3, creepOfYear_e o (by omega) (by omega) (by omega) (by omega), bq_e, t4, I_add, bd_e, rd_wj _ _ (by omega), t3, z1, I_add, bd_e, ← hp]
  · refine hT.w hn (fun w hw => ?_) (fun k h1 h2 => by rw [hp, wr_ne _ _ (by omega), wr_ne _ _ (by omega)]) (fun w h1 h2 => ?_)
    · show rd p 5 t w = _
      unfold growS
      rw [← hc]
      by_cases e3 : w = 3
      · rw [hp, e3, rd_wr, show (38 * (g : Int) + ((3 : Nat) : Int)) = 38 * (g : Int) + 3 from rfl, upI_s]
      · rw [hp, rd_wj _ _ e3, upI_n _ _ (by omega)]
        by_cases e4 : w = 4
        · rw [e4, rd_wr, show (38 * (g : Int) + ((4 : Nat) : Int)) = 38 * (g : Int) + 4 from rfl, upI_s]
        · rw [rd_wj _ _ e4, upI_n _ _ (by omega)]
          exact hT.f hw
    · unfold growS
      rw [upI_n _ _ (by omega), upI_n _ _ (by omega)]
theorem WB.yr {T : Int → Int} (hW : WB T) (i : Nat) (hi : i ≤ gm T) : WB (yrS T i) ∧ gm (yrS T i) = gm T := by
  obtain ⟨w1, w2, w3⟩ := hW
  have e : yrS T i 228 = T 228 := yrS_n T i (fun h hh => by omega)
  have eg : gm (yrS T i) = gm T := by
    show Int.toNat _ = _
    rw [e]
    rfl
  refine ⟨⟨by rw [e, eg]; exact w1, by rw [eg]; exact w2, fun h hh => ?_⟩, eg⟩
  rw [eg] at hh
  rw [gn_c (yrS_n T i (fun k hk => by omega))]
  exact w3 h hh
theorem cyear_loop {T : Int → Int} (hW : WB T) (b2 : ∀ h : Nat, h < gm T → 0 ≤ T (38 * (h : Int) + 2) ∧ T (38 * (h : Int) + 2) ≤ 3) (b3 : ∀ h : Nat, h < gm T → 0 ≤ T (38 * (h : Int) + 3) ∧ T (38 * (h : Int) + 3) ≤ 1000000) (bs : ∀ h : Nat, h < gm T → 0 ≤ T (235 + T (38 * (h : Int) + 2)) ∧ T (235 + T (38 * (h : Int) + 2)) ≤ 60) (kk : OM → Option (Unit × OM)) : ∀ (fuel i : Nat) (o : OM), gm T < i + fuel → i ≤ gm T → CS o 0 (yrS T i) → PM o 0 → ∃ o1, LX2_letPass_9 kk 0 fuel o (I (i : Int)) = kk o1 ∧ Fz o o1 ∧ o1.1 4 0 = o.1 4 0 ∧ CS o1 0 (yrS T (gm T)) := by
  intro fuel
  induction fuel with
  | zero => intro i o h1 h2; omega
  | succ fuel ih =>
    intro i o h1 h2 hC hP
    obtain ⟨W, eg⟩ := hW.yr i h2
    have w2 := hW.2.1
    have c3 := hC.2.2.1
    rw [W.1, eg] at c3
    rw [LX2_letPass_9.eq_2]
    have z1 : (1 : Int32) = I 1 := rfl
    by_cases c : (gm T : Int) ≤ (i : Int)
    · have : i = gm T := by omega
      rw [this] at hC
      refine ⟨o, ?_, Fz.rf o, rfl, hC⟩
      dsimp only
      rw [c3, if_pos (by rw [I_le (by omega) (by omega) (by omega) (by omega)]; exact c)]
    · have hi : i < gm T := by omega
      have e2 : yrS T i (38 * (i : Int) + 2) = T (38 * (i : Int) + 2) := yrS_n T i (fun h hh => by omega)
      have e3 : yrS T i (38 * (i : Int) + 3) = T (38 * (i : Int) + 3) := yrS_n T i (fun h hh => by omega)
      have hb := b2 i hi
      have e5 : yrS T i (235 + yrS T i (38 * (i : Int) + 2)) = T (235 + T (38 * (i : Int) + 2)) := by
        rw [e2]
        exact yrS_n T i (fun h hh => by omega)
      have hT := hC.2.2.2.2.2.2.2 i (by omega)
      obtain ⟨t, ht⟩ : ∃ t, t = tid 0 (rd o 4 0 i) := ⟨_, rfl⟩
      rw [← ht] at hT
      have ht6 : t / 6 = 0 := by rw [ht]; exact tid_0 _ _
      have ec := creepOf_w hC (g := i) (t := t) hT.2.2.1 (by rw [e2]; exact hb)
      obtain ⟨p, ep, fp, tp⟩ := grow_e hT (W.2.2 i (by omega)) (by rw [e3]; exact b3 i hi) (by rw [e5]; exact bs i hi)
      have p4 : p.1 4 0 = o.1 4 0 := fp.1 4 0 (by omega)
      have hC1 : CS p 0 (yrS T (i + 1)) := CS.one (g := i) hC W hP (by omega) (by rw [← ht]; exact fp) (by rw [← ht]; exact tp) (fun a ha => by
        show growS (yrS T i) i a = _
        unfold growS
        rw [upI_n _ _ (by omega), upI_n _ _ (by omega)])
      obtain ⟨o1, e1, f1, g1, r1⟩ := ih (i + 1) p (by omega) (by omega) hC1 (hP.c p4)
      refine ⟨o1, ?_, (fp.fz ht6).tr f1, g1.trans p4, r1⟩
      dsimp only
      rw [c3, if_neg (by rw [I_le (by omega) (by omega) (by omega) (by omega)]; exact c), I_inB (a := (i : Int)) (by omega) (by omega) (by omega), grd_e, I_tcN (by omega), ← ht, bd_e, grd_e, bd_e, ec, bq_e, ep, bn_e, z1, I_add, bd_e]
      exact e1
theorem yrS_233 (U : Int → Int) (y : Int) : ∀ n : Nat, n ≤ 6 → (∀ h : Nat, h < n → 0 ≤ U (38 * (h : Int) + 2)) → yrS (upI U 233 y) n = upI (yrS U n) 233 y
  | 0, _, _ => rfl
  | n + 1, hn, hb => by
    have ih := yrS_233 U y n (by omega) (fun h hh => hb h (by omega))
    have e : yrS (upI U 233 y) (n + 1) = growS (yrS (upI U 233 y) n) n := rfl
    have e' : yrS U (n + 1) = growS (yrS U n) n := rfl
    have h2 : yrS U n (38 * (n : Int) + 2) = U (38 * (n : Int) + 2) := yrS_n U n (fun h hh => by omega)
    have hb2 := hb n (by omega)
    rw [← h2] at hb2
    rw [e, e', ih]
    obtain ⟨V, hV⟩ : ∃ V, V = yrS U n := ⟨_, rfl⟩
    rw [← hV] at hb2 ⊢
    unfold growS
    rw [upI_n (b := 38 * (n : Int) + 2) _ _ (by omega), upI_n (b := 38 * (n : Int) + 3) _ _ (by omega), upI_n (b := 38 * (n : Int) + 4) _ _ (by omega), upI_n (b := 235 + V (38 * (n : Int) + 2)) _ _ (by omega)]
    funext a
    unfold upI
    by_cases c1 : a = 38 * (n : Int) + 3
    · rw [if_pos c1, if_neg (by omega), if_pos c1]
    · by_cases c2 : a = 38 * (n : Int) + 4
      · rw [if_neg c1, if_pos c2, if_neg (by omega), if_neg c1, if_pos c2]
      · by_cases c3 : a = 233
        · rw [if_neg c1, if_neg c2, if_pos c3, if_pos c3]
        · rw [if_neg c1, if_neg c2, if_neg c3, if_neg c3, if_neg c1, if_neg c2]
theorem cpass_loop {S : Int → Int} {Y : Nat} (hB : SB S Y) {n : Nat} (hn : n ≤ 20) (hY : Y + n ≤ 900000) (kk : OM → Option (Unit × OM)) : ∀ (fuel k : Nat) (o : OM), n < k + fuel → k ≤ n → CS o 0 (upI (passS S k) 233 (S 233)) → PM o 0 → ∃ o1, LX2_letPass_2 kk (I (n : Int)) 0 fuel o (I (k : Int)) = kk o1 ∧ Fz o o1 ∧ o1.1 4 0 = o.1 4 0 ∧ CS o1 0 (upI (passS S n) 233 (S 233)) := by
  intro fuel
  induction fuel with
  | zero => intro i o h1 h2; omega
  | succ fuel ih =>
    intro k o h1 h2 hC hP
    rw [LX2_letPass_2.eq_2]
    have z1 : (1 : Int32) = I 1 := rfl
    have z0 : (0 : Int32) = I ((0 : Nat) : Int) := rfl
    by_cases c : (n : Int) ≤ (k : Int)
    · have : k = n := by omega
      rw [this] at hC
      refine ⟨o, ?_, Fz.rf o, rfl, hC⟩
      dsimp only
      rw [if_pos (by rw [I_le (by omega) (by omega) (by omega) (by omega)]; exact c)]
    · have hk : k < n := by omega
      obtain ⟨B, eg, -⟩ := hB.pass k
      obtain ⟨U, hU⟩ : ∃ U, U = passS S k := ⟨_, rfl⟩
      have eU : passS S (k + 1) = upI (yrS U (gm S)) 233 (U 233 + 1) := by rw [hU]; rfl
      rw [← hU] at B eg hC
      obtain ⟨T, hT⟩ : ∃ T, T = upI U 233 (S 233) := ⟨_, rfl⟩
      rw [← hT] at hC
      have tn : ∀ a : Int, a ≠ 233 → T a = U a := fun a ha => by rw [hT]; exact upI_n _ _ ha
      have egT : gm T = gm U := by
        show Int.toNat _ = _
        rw [tn 228 (by omega)]
        rfl
      have hm := B.m
      have W : WB T := ⟨by rw [egT, tn 228 (by omega)]; exact hm.1, by rw [egT]; exact hm.2, fun h hh => by
        rw [gn_c (tn _ (by omega))]
        exact (B.g (by omega)).p.1⟩
      have bb : ∀ h : Nat, h < gm T → (0 ≤ T (38 * (h : Int) + 2) ∧ T (38 * (h : Int) + 2) ≤ 3) ∧ (0 ≤ T (38 * (h : Int) + 3) ∧ T (38 * (h : Int) + 3) ≤ 1000000) ∧ (0 ≤ T (235 + T (38 * (h : Int) + 2)) ∧ T (235 + T (38 * (h : Int) + 2)) ≤ 60) := fun h hh => by
        have G := B.g (g := h) (by omega)
        have gr := grow_rg B G
        obtain ⟨-, -, a3, a4, -⟩ := G
        rw [tn (38 * (h : Int) + 2) (by omega), tn (38 * (h : Int) + 3) (by omega), tn (235 + U (38 * (h : Int) + 2)) (by omega)]
        exact ⟨a3, by omega, gr.2.2⟩
      have hFU : 10 < FU := by unfold FU; omega
      generalize FU = F at hFU ⊢
      have hy := cyear_loop W (fun h hh => (bb h hh).1) (fun h hh => (bb h hh).2.1) (fun h hh => (bb h hh).2.2) (fun (o_5 : OM) => bd (I (k : Int) + (1 : Int32)) (fun v2_6 : Int32 => (LX2_letPass_2 kk (I (n : Int)) 0 fuel) o_5 v2_6)) F 0 o (by omega) (by omega) hC hP
      obtain ⟨p, ep, fp, gp, cp⟩ := hy
      have hyr : yrS T (gm T) = upI (yrS U (gm S)) 233 (S 233) := by
        rw [egT, eg, hT]
        exact yrS_233 U (S 233) (gm S) (by omega) (fun h hh => by
          have := (bb h (by omega)).1.1
          rw [tn _ (by omega)] at this
          exact this)
      rw [hyr] at cp
      have cp' : CS p 0 (upI (passS S (k + 1)) 233 (S 233)) := by
        have e2 : upI (upI (yrS U (gm S)) 233 (U 233 + 1)) 233 (S 233) = upI (yrS U (gm S)) 233 (S 233) := by
          funext a
          by_cases h : a = 233
          · rw [h, upI_s, upI_s]
          · rw [upI_n _ _ h, upI_n _ _ h, upI_n _ _ h]
        rw [eU, e2]
        exact cp
      obtain ⟨o1, e1, f1, g1, r1⟩ := ih (k + 1) p (by omega) (by omega) cp' (hP.c gp)
      refine ⟨o1, ?_, fp.tr f1, g1.trans gp, r1⟩
      dsimp only
      rw [if_neg (by rw [I_le (by omega) (by omega) (by omega) (by omega)]; exact c), bd_e, z0, ep, bd_e, z1, I_add]
      exact e1
theorem WB.u {S : Int → Int} (h : WB S) {a : Int} (v : Int) (ha : 229 ≤ a) : WB (upI S a v) := by
  obtain ⟨w1, w2, w3⟩ := h
  have e : upI S a v 228 = S 228 := upI_n _ _ (by omega)
  have eg : gm (upI S a v) = gm S := by
    show Int.toNat _ = _
    rw [e]
    rfl
  refine ⟨by rw [e, eg]; exact w1, by rw [eg]; exact w2, fun h hh => ?_⟩
  rw [eg] at hh
  rw [gn_c (upI_n _ _ (by omega))]
  exact w3 h hh
theorem letPass_e {o : OM} {S : Int → Int} {Y : Nat} (hC : CS o 0 S) (hB : SB S Y) (hP : PM o 0) {n : Nat} (hn : n ≤ 20) (hY : Y + n ≤ 900000) : ∃ o1, F_X2_letPass o 0 (I (n : Int)) = some ((), o1) ∧ Fz o o1 ∧ o1.1 4 0 = o.1 4 0 ∧ CS o1 0 (passS S n) := by
  obtain ⟨B, eg, e3⟩ := hB.pass n
  have z0 : (0 : Int32) = I ((0 : Nat) : Int) := rfl
  have hFU : 30 < FU := by unfold FU; omega
  unfold F_X2_letPass
  generalize FU = F at hFU ⊢
  obtain ⟨p, ep, fp, gp, cp⟩ := cpass_loop hB hn hY (fun (o_1 : OM) => bd (wr o_1 1 0 0 ((rd o_1 1 0 0) + (I (n : Int)))) (fun o_2 : OM => some ((), o_2))) F 0 o (by omega) (by omega) (hC.c hB.wb (fun a h1 h2 _ _ => by
    by_cases h : a = 233
    · rw [h, upI_s]
    · exact upI_n _ _ h)) hP
  have W := B.wb.u (a := 233) (S 233) (by omega)
  have p0 := cp.1
  rw [upI_s] at p0
  have C2 := cp.s1 W (j := 0) (a := 233) (S 233 + (n : Int)) (by omega)
  refine ⟨wr p 1 0 0 (I (S 233 + (n : Int))), ?_, fp.wr (by omega), (wr_ne _ _ (by omega)).trans gp, C2.c (W.u _ (by omega)) (fun a h1 h2 _ _ => ?_)⟩
  · rw [bd_e, z0, ep]
    rw [p0, I_add, bd_e]
  · by_cases h : a = 233
    · rw [h, upI_s, e3]
    · rw [upI_n _ _ h, upI_n _ _ h]
