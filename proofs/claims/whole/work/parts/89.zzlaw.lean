/-! the law -/
theorem law_br2 {cs : List Nat} {P : OM → Option ((Nat × Int32) × OM)} {M : OM → Option (Int32 × OM)} {S : Int → Int} {q : Qt} {Y : Nat} (h : OK2 cs P M S q Y) {o : OM} (hP : RP o S q) (hM : RM o S q) {K : OM → Option Int32} (hK : ∀ o9 S' q', RP o9 S' q' → RM o9 S' q' → RB S' q' (Y + 1200) → K o9 = some 1) {F : Option (Int32 × OM)} (hF : F = bn (P o) (fun q o1 => grd (okc cs q.1) (some (wk cs q.1, wo q o1)))) :
    bn F (fun r_6 o_7 => bn (M o_7) (fun r_8 o_9 => bq (F_X6_thrown o_9) (fun r_10 => if r_10 = r_6 then (bd (fun (_ : Unit) => K o_9) (fun k237 => if r_6 = 0 then (if (lg_cmp (rdL o_9 24) r_8.toInt64) = 0 then (k237 ()) else (some ((0 : Int32)))) else (k237 ()))) else (some ((0 : Int32)))))) = some 1 := by
  obtain ⟨o9, S', q', h1, h2, h3, h4⟩ := law_2 h hP hM
  rw [hF]
  exact (h4 K).trans (hK o9 S' q' h1 h2 h3)
theorem law_br0 {P : OM → Option (Int32 × OM)} {M : OM → Option (Int32 × OM)} {S : Int → Int} {q : Qt} {Y : Nat} (h : OK0 P M S q Y) {o : OM} (hP : RP o S q) (hM : RM o S q) {K : OM → Option Int32} (hK : ∀ o9 S' q', RP o9 S' q' → RM o9 S' q' → RB S' q' (Y + 1200) → K o9 = some 1) :
    bn (P o) (fun r_51 o_52 => bn (M o_52) (fun r_53 o_54 => if r_51 = r_53 then (K o_54) else (some ((0 : Int32))))) = some 1 := by
  obtain ⟨r, S', q', h1, h2, h3⟩ := h
  obtain ⟨o1, e1, g1, r1⟩ := h1 o hP
  obtain ⟨o2, e2, g2, r2⟩ := h2 o1 (hM.gp g1)
  rw [e1, bn_e, e2, bn_e, if_pos rfl]
  exact hK o2 S' q' (r1.gm g2) r2 h3
theorem law_share {S : Int → Int} {q : Qt} {Y : Nat} (hb : RB S q Y) (hY : Y ≤ 700000) {o : OM} (hP : RP o S q) (hM : RM o S q) {K : OM → Option Int32} (hK : ∀ o9 S' q', RP o9 S' q' → RM o9 S' q' → RB S' q' (Y + 1200) → K o9 = some 1) :
    bq (F_X5_validShare o) (fun r_128 => bn (F_X6_validShare o) (fun r_129 o_130 => bd (fun (_ : Unit) => K o_130) (fun k1625 => if (Op.cmpValue (FP.dcmp r_128 r_129) .l) = 0 then (k1625 ()) else (bd (fun (_ : Unit) => some ((0 : Int32))) (fun k1623 => if (Op.cmpValue (FP.dcmp r_128 r_128) .l) = 0 then (k1623 ()) else (if (Op.cmpValue (FP.dcmp r_129 r_129) .l) = 0 then (k1623 ()) else (k1625 ()))))))) = some 1 := by
  obtain ⟨e1, e2, e3, e4⟩ := shn_rg hb.1
  have hk := (shv_ok _ e4 _ e3 e2).2.1
  have hm := hM.w19 (j := 0) (I 0) (by omega)
  have em : F_X6_validShare o = some (shv (gm S) (shn S), wr o 19 0 0 (I 0)) := by
    unfold F_X6_validShare
    rw [show (0 : Int32) = I 0 from rfl, bd_e, mshare_e hm.1 hb.1 (by omega), bq_e]
  rw [cshare_e hP.1 hb.1 (by omega), bq_e, em, bn_e, bd_e, if_pos hk]
  exact hK _ S q (hP.gm ((Gm.rf o).wr (by omega))) hm (hb.mono (by omega))
theorem law_digest {S : Int → Int} {q : Qt} {Y : Nat} (hb : RB S q Y) (hY : Y ≤ 700000) {o : OM} (hP : RP o S q) (hM : RM o S q) {K : OM → Option Int32} (hK : ∀ o9 S' q', RP o9 S' q' → RM o9 S' q' → RB S' q' (Y + 1200) → K o9 = some 1) :
    bn (F_L_digest o) (fun r_131 o_132 => bn (F_X6_digest o_132) (fun r_133 o_134 => if (lg_cmp r_131 r_133) = 0 then (K o_134) else (some ((0 : Int32))))) = some 1 := by
  have ec := cdigest_e hP hb hY
  have em := mdigest_e hM hb hY
  have el : F_L_digest o = some (dgs S q.1.1 q.2.2.1 q.2.2.2, o) := by
    unfold F_L_digest
    rw [ec, bn_e]
    dsimp only
    rw [show decide ((0 : Nat) = 0) = true from rfl, grd_e]
  rw [el, bn_e, em, bn_e, if_pos (by simp [lg_cmp])]
  refine hK _ S q ((hP.gm ((Gm.rf o).wr (k := 19) (i := 0) (j := 0) (v := I 0) (by omega))).wL _ _) ((hM.w19 (j := 0) (I 0) (by omega)).wL _ _) (hb.mono (by omega))
theorem to_I (x : Int32) : ∃ a : Int, x = I a ∧ R32 a := ⟨x.toInt, (I_toI x).symm, toI_lo x, toI_hi x⟩
theorem law_loop (xs : Nat → Int32) (L : Nat) (hL : L ≤ 2048) : ∀ (fuel j : Nat) (o : OM) (S : Int → Int) (q : Qt) (Y : Nat), 520 < fuel + j → j ≤ 512 → Y ≤ 1200 * j → RP o S q → RM o S q → RB S q Y → LL_law_23 xs L fuel o (I ((4 * j : Nat) : Int)) = some 1 := by
  intro fuel
  induction fuel with
  | zero => intro j o S q Y h1 h2; omega
  | succ fuel ih =>
    intro j o S q Y h1 h2 hYj hP hM hb
    have hY : Y ≤ 700000 := by omega
    have hY1 : Y ≤ 1000000 := by omega
    rw [LL_law_23.eq_2]
    dsimp only
    have eL : Int32.ofNat L = I (L : Int) := I_nI L
    rw [eL, show (4 : Int32) = I 4 from rfl, I_sub]
    by_cases c : (L : Int) - 4 < ((4 * j : Nat) : Int)
    · rw [if_pos (by rw [I_lt (by omega) (by omega) (by omega) (by omega)]; exact c)]
    · rw [if_neg (by rw [I_lt (by omega) (by omega) (by omega) (by omega)]; exact c), I_inB (a := ((4 * j : Nat) : Int)) (by omega) (by omega) (by omega), grd_e, bd_e]
      obtain ⟨K, hKe⟩ : ∃ K : OM → Option Int32, K = (fun (o_4 : OM) => bd (I ((4 * j : Nat) : Int) + I 4) (fun v4_5 : Int32 => (LL_law_23 xs L fuel) o_4 v4_5)) := ⟨_, rfl⟩
      have hK : ∀ o9 S' q', RP o9 S' q' → RM o9 S' q' → RB S' q' (Y + 1200) → K o9 = some 1 := fun o9 S' q' x1 x2 x3 => by
        rw [hKe]
        dsimp only
        rw [I_add, bd_e, show ((4 * j : Nat) : Int) + 4 = ((4 * (j + 1) : Nat) : Int) from by omega]
        exact ih (j + 1) o9 S' q' (Y + 1200) (by omega) (by omega) (by omega) x1 x2 x3
      obtain ⟨t, ht⟩ : ∃ t, t = (xs (I ((4 * j : Nat) : Int)).toNatClampNeg) &&& ((31 : Int32)) := ⟨_, rfl⟩
      have i1 : inB (I ((4 * j : Nat) : Int) + (1 : Int32)) L = true := by rw [show (1 : Int32) = I 1 from rfl, I_add]; exact I_inB (by omega) (by omega) (by omega)
      have i2 : inB (I ((4 * j : Nat) : Int) + (2 : Int32)) L = true := by rw [show (2 : Int32) = I 2 from rfl, I_add]; exact I_inB (by omega) (by omega) (by omega)
      have i3 : inB (I ((4 * j : Nat) : Int) + (3 : Int32)) L = true := by rw [show (3 : Int32) = I 3 from rfl, I_add]; exact I_inB (by omega) (by omega) (by omega)
      obtain ⟨a, ea, ha⟩ := to_I (xs (I ((4 * j : Nat) : Int) + (1 : Int32)).toNatClampNeg)
      obtain ⟨b, eb, hbb⟩ := to_I (xs (I ((4 * j : Nat) : Int) + (2 : Int32)).toNatClampNeg)
      obtain ⟨d, ed, hd⟩ := to_I (xs (I ((4 * j : Nat) : Int) + (3 : Int32)).toNatClampNeg)
      rw [← ht, ← hKe, bd_e]
      simp only [i1, i2, i3, grd_e, ea, eb, ed]
      by_cases t0 : t = 0
      · rw [if_pos t0]
        exact law_br2 (ok_make hb hY ha hbb hd) hP hM hK rfl
      rw [if_neg t0]
      by_cases t1 : t = 1
      · rw [if_pos t1]
        exact law_br2 (ok_breakOne hb hY ha) hP hM hK rfl
      rw [if_neg t1]
      by_cases t2 : t = 2
      · rw [if_pos t2]
        exact law_br2 (ok_bath hb hY ha hbb) hP hM hK rfl
      rw [if_neg t2]
      by_cases t3 : t = 3
      · rw [if_pos t3]
        exact law_br2 (ok_pass hb hY ha) hP hM hK rfl
      rw [if_neg t3]
      by_cases t4 : t = I 4
      · rw [if_pos t4]
        exact law_br2 (ok_set hb hY ha hbb) hP hM hK rfl
      rw [if_neg t4]
      by_cases t5 : t = 5
      · rw [if_pos t5]
        exact law_br2 (ok_measure hb hY ha hbb) hP hM hK rfl
      rw [if_neg t5]
      by_cases t6 : t = 6
      · rw [if_pos t6]
        exact law_br2 (ok_forget hb hY ha hbb) hP hM hK rfl
      rw [if_neg t6]
      by_cases t7 : t = 7
      · rw [if_pos t7]
        exact law_br2 (ok_paper hb hY ha) hP hM hK rfl
      rw [if_neg t7]
      by_cases t8 : t = 8
      · rw [if_pos t8]
        exact law_br2 (ok_append hb hY ha) hP hM hK rfl
      rw [if_neg t8]
      by_cases t9 : t = 9
      · rw [if_pos t9]
        exact law_br0 (ok_clear hb hY) hP hM hK
      rw [if_neg t9]
      by_cases t10 : t = 10
      · rw [if_pos t10]
        exact law_br0 (ok_firstError hb hY) hP hM hK
      rw [if_neg t10]
      by_cases t11 : t = 11
      · rw [if_pos t11]
        exact law_br2 (ok_work hb hY) hP hM hK rfl
      rw [if_neg t11]
      by_cases t12 : t = 12
      · rw [if_pos t12]
        exact law_br2 (ok_stopped hb hY1 ha) hP hM hK rfl
      rw [if_neg t12]
      by_cases t13 : t = 13
      · rw [if_pos t13]
        exact law_br2 (ok_undo hb hY) hP hM hK rfl
      rw [if_neg t13]
      by_cases t14 : t = 14
      · rw [if_pos t14]
        exact law_br0 (ok_keep hb hY) hP hM hK
      rw [if_neg t14]
      by_cases t15 : t = 15
      · rw [if_pos t15]
        exact law_br2 (ok_restore hb hY) hP hM hK rfl
      rw [if_neg t15]
      by_cases t16 : t = 16
      · rw [if_pos t16]
        exact law_br2 (ok_reads hb hY1 ha hbb) hP hM hK rfl
      rw [if_neg t16]
      by_cases t17 : t = 17
      · rw [if_pos t17]
        exact law_br2 (ok_corrected hb hY1 ha hbb hd) hP hM hK rfl
      rw [if_neg t17]
      by_cases t18 : t = 18
      · rw [if_pos t18]
        exact law_br2 (ok_thermometer hb hY1 ha hbb) hP hM hK rfl
      rw [if_neg t18]
      by_cases t19 : t = 19
      · rw [if_pos t19]
        exact law_br2 (ok_point hb hY1 ha hbb hd) hP hM hK rfl
      rw [if_neg t19]
      by_cases t20 : t = 20
      · rw [if_pos t20]
        exact law_br2 (ok_count hb hY1 ha) hP hM hK rfl
      rw [if_neg t20]
      by_cases t21 : t = 21
      · rw [if_pos t21]
        exact law_br2 (ok_whyNot hb hY1 ha hbb) hP hM hK rfl
      rw [if_neg t21]
      by_cases t22 : t = 22
      · rw [if_pos t22]
        exact law_br2 (ok_overlap hb hY1 ha hbb hd) hP hM hK rfl
      rw [if_neg t22]
      by_cases t23 : t = 23
      · rw [if_pos t23]
        exact law_br2 (ok_worst hb hY1 ha hbb) hP hM hK rfl
      rw [if_neg t23]
      by_cases t24 : t = 24
      · rw [if_pos t24]
        exact law_br2 (ok_void hb hY1 ha) hP hM hK rfl
      rw [if_neg t24]
      by_cases t25 : t = 25
      · rw [if_pos t25]
        exact law_share hb hY hP hM hK
      rw [if_neg t25]
      by_cases t26 : t = 26
      · rw [if_pos t26]
        exact law_digest hb hY hP hM hK
      rw [if_neg t26]
      exact hK o S q hP hM (hb.mono (by omega))
/-! the start -/
def S0 : Int → Int := fun a => if a = 230 then 1000 else if a = 231 then 370 else if a = 232 then -100 else if a = 235 then 12 else if a = 236 then 6 else if a = 237 then 20 else if a = 239 then 2 else if a = 240 then 4 else if a = 241 then 10 else if a = 242 ∨ a = 243 ∨ a = 244 ∨ a = 245 then -1 else 0
def q0 : Qt := ((0, fun _ => S0), (0, S0), (0, fun _ => 0))
theorem start_m : ∀ n : Nat, n < 244 → moS n = I (S0 (n : Int)) := by decide +kernel
theorem start_b : ∀ n : Nat, n < 4 → fFB n = I (S0 (229 + (n : Int))) := by decide +kernel
theorem start_s : ∀ n : Nat, n < 7 → fFS n = I (S0 (235 + (n : Int))) := by decide +kernel
theorem start_bb : ∀ n : Nat, n < 4 → -400 ≤ S0 (229 + (n : Int)) ∧ S0 (229 + (n : Int)) ≤ 1500 := by decide +kernel
theorem start_sb : ∀ n : Nat, n < 7 → 0 ≤ S0 (235 + (n : Int)) ∧ S0 (235 + (n : Int)) ≤ lim (n : Int) := by decide +kernel
theorem start_P : RP o0 S0 q0 := by
  refine ⟨⟨rfl, rfl, rfl, rfl, rfl, fun a h1 h2 => ?_, fun a h1 h2 => ?_, fun g hg => ?_⟩, fun j hj g hg => ?_, ⟨0, by show 0 ≤ 6; omega, by omega, rfl, rfl, fun i hi => ?_⟩, rfl, fun z => absurd z (by show ¬ ((0 : Int) = 1); omega), rfl, fun k hk => ?_⟩
  · obtain ⟨n, rfl⟩ : ∃ n : Nat, a = (n : Int) := ⟨a.toNat, by omega⟩
    rw [I_tcN (by omega)]
    exact start_b n (by omega)
  · obtain ⟨n, rfl⟩ : ∃ n : Nat, a = (n : Int) := ⟨a.toNat, by omega⟩
    rw [I_tcN (by omega)]
    exact start_s n (by omega)
  · have : g < 0 := hg
    omega
  · refine ⟨g, hg, I_nI g, fun g' hg' e => ?_⟩
    have e : nI g' = nI g := e
    rw [I_nI, I_nI] at e
    have := I_inj (by omega) (by omega) (by omega) (by omega) e
    omega
  · have : i < 0 := hi
    omega
  · have : k < 0 := hk
    omega
theorem start_M : RM o0 S0 q0 := by
  refine ⟨fun a h1 h2 => ?_, ⟨rfl, fun i hi => ?_⟩, rfl, fun z => absurd z (by show ¬ ((0 : Int) = 1); omega), rfl, fun k hk => ?_⟩
  · obtain ⟨n, rfl⟩ : ∃ n : Nat, a = (n : Int) := ⟨a.toNat, by omega⟩
    rw [I_tcN (by omega)]
    exact start_m n (by omega)
  · have : i < 0 := hi
    omega
  · have : k < 0 := hk
    omega
theorem start_B : RB S0 q0 0 := by
  have e8 : S0 228 = 0 := rfl
  refine ⟨⟨by rw [e8]; omega, fun k h1 h2 => ?_, by show 0 ≤ (0 : Int) ∧ (0 : Int) ≤ ((0 : Nat) : Int); omega, by show 0 ≤ (0 : Int) ∧ (0 : Int) ≤ ((0 : Nat) : Int); omega, fun k h1 h2 => ?_, by show -1 ≤ (-1 : Int) ∧ (-1 : Int) ≤ 60; omega, by show -1 ≤ (-1 : Int) ∧ (-1 : Int) ≤ 8; omega, fun g hg => ?_⟩, fun i hi => ?_, by show 0 ≤ 6; omega, Or.inl rfl, fun z => absurd z (by show ¬ ((0 : Int) = 1); omega), by show 0 ≤ 60; omega, fun k hk => ?_, ⟨rfl, rfl⟩, fun i hi => ?_, fun z => absurd z (by show ¬ ((0 : Int) = 1); omega)⟩
  · obtain ⟨n, rfl⟩ : ∃ n : Nat, k = (n : Int) := ⟨k.toNat, by omega⟩
    exact start_bb n (by omega)
  · obtain ⟨n, rfl⟩ : ∃ n : Nat, k = (n : Int) := ⟨k.toNat, by omega⟩
    exact start_sb n (by omega)
  · rw [e8] at hg
    omega
  · have : i < 0 := hi
    omega
  · have : k < 0 := hk
    omega
  · have : i < 0 := hi
    omega
theorem law_pure (xs : Nat → Int32) (L : Nat) (hL : L ≤ 2048) : LL_law_23 xs L FU o0 0 = some 1 :=
  law_loop xs L hL FU 0 o0 S0 q0 0 (by unfold FU; omega) (by omega) (by omega) start_P start_M start_B
