/-! the program's changes, one by one -/
section
variable {o : OM} {S : Int → Int} {g Y t : Nat} {z : Int}
theorem addTh_e (hC : CS o 0 S) (hB : SB S Y) (hP : PM o 0) (hm : gm S < 6) (a b c : Int) : ∃ o1, F_X2_addThermometer o 0 (I a) (I b) (I c) = some ((), o1) ∧ Fz o o1 ∧ o1.1 4 0 = o.1 4 0 ∧ CS o1 0 (makeS S a b c) := by
  have hmm := hB.m
  have hr := hasRoom_e hC hB
  obtain ⟨c1, c2, c3, c4, c5, c6, c7, c8⟩ := hC
  rw [hmm.1] at c3
  obtain ⟨t, ht⟩ : ∃ t, t = tid 0 (rd o 4 0 (gm S)) := ⟨_, rfl⟩
  have ht6 : t / 6 = 0 := by rw [ht]; exact tid_0 _ _
  obtain ⟨p, e1, f1, r0, r1, r2, r3, r4, r5, r6, r7⟩ := beginAnew_e o t a b c
  have p12 : rd p 1 0 2 = I (gm S : Int) := by rw [f1.rd (by omega)]; exact c3
  have p4 : p.1 4 0 = o.1 4 0 := f1.1 4 0 (by omega)
  have egm := makeS_gm S a b c hmm.1
  refine ⟨wr p 1 0 2 (I ((gm S : Int) + 1)), ?_, (f1.fz ht6).wr (by omega), (wr_ne p _ (by omega)).trans p4, ?_⟩
  · unfold F_X2_addThermometer
    have z1 : (1 : Int32) = I 1 := rfl
    rw [hr, bq_e, tf_t hm, bd_e, if_neg (by decide), c3, I_inB (a := (gm S : Int)) (by omega) (by omega) (by omega), grd_e, I_tcN (by omega), bd_e, ← ht, e1, bn_e, p12, z1, I_add, bd_e]
  · have k1 : ∀ j, j ≠ 2 → rd (wr p 1 0 2 (I ((gm S : Int) + 1))) 1 0 j = rd o 1 0 j := fun j hj => by rw [rd_wj _ _ hj, f1.rd (by omega)]
    have k2 : ∀ k j, 2 ≤ k → k ≤ 4 → rd (wr p 1 0 2 (I ((gm S : Int) + 1))) k 0 j = rd o k 0 j := fun k j h1 h2 => by rw [rd_wk _ _ (by omega), f1.rd (by omega)]
    refine ⟨by rw [k1 0 (by omega), c1, makeS_lo _ _ _ _ (by omega) (by omega)], by rw [k1 1 (by omega), c2, makeS_lo _ _ _ _ (by omega) (by omega)], by rw [rd_wr, egm.1], by rw [k1 3 (by omega), c4, makeS_lo _ _ _ _ (by omega) (by omega)], by rw [k1 4 (by omega), c5, makeS_lo _ _ _ _ (by omega) (by omega)], fun x h1 h2 => by rw [k2 2 _ (by omega) (by omega), c6 x h1 h2, makeS_lo _ _ _ _ (by omega) (by omega)], fun x h1 h2 => by rw [k2 3 _ (by omega) (by omega), c7 x h1 h2, makeS_lo _ _ _ _ (by omega) (by omega)], fun h hh => ?_⟩
    rw [egm.2] at hh
    rw [k2 4 _ (by omega) (by omega)]
    refine TC.mm (m := fun k => p.1 k (tid 0 (rd o 4 0 h))) ?_ (fun k x y => wr_ne p _ (by omega))
    by_cases e : h = gm S
    · rw [e, ← ht]
      have mk : ∀ w : Int, 0 ≤ w → w < 38 → makeS S a b c (38 * (gm S : Int) + w) = if w = 0 then a else if w = 1 then b else if w = 2 then c else if w = 5 then -1 else 0 := fun w x y => makeS_new S a b c hm x y
      have m7 : makeS S a b c (38 * (gm S : Int) + 7) = 0 := (mk 7 (by omega) (by omega)).trans (by simp)
      have n0 : gn (makeS S a b c) (gm S) = 0 := by
        unfold gn
        rw [m7]
        rfl
      refine ⟨r0.trans (by rw [mk 0 (by omega) (by omega)]; rfl), r1.trans (by rw [mk 1 (by omega) (by omega)]; rfl), r2.trans (by rw [mk 2 (by omega) (by omega)]; rfl), r3.trans (by rw [mk 3 (by omega) (by omega)]; rfl), r4.trans (by rw [mk 4 (by omega) (by omega)]; rfl), r5.trans (by rw [mk 5 (by omega) (by omega)]; rfl), r6.trans (by rw [mk 6 (by omega) (by omega)]; rfl), r7.trans (by rw [n0]; rfl), ?_⟩
      rw [n0]
      intro k hk
      omega
    · have hh' : h < gm S := by omega
      have hne := pm_ne hP (g := h) (g' := gm S) (by omega) (by omega) e
      refine TC.sh (g := h) ?_ (hB.g hh').p.1 (fun w h1 h2 => makeS_lo _ _ _ _ (by omega) (by omega))
      exact (c8 h hh').mm (fun k x y => f1.1 k _ (by intro z; exact hne (z.1.trans ht)))
theorem giveSeal_e (hC : CS o 0 S) (hB : SB S Y) (hP : PM o 0) (hg : g < gm S) : ∃ o1, F_X2_giveSeal o 0 (tid 0 (rd o 4 0 g)) = some ((), o1) ∧ Fz o o1 ∧ o1.1 4 0 = o.1 4 0 ∧ rd o1 5 (tid 0 (rd o 4 0 g)) 5 = I (S 234 + 1) ∧ CS o1 0 (sealS S g) := by
  have hm := hB.m
  have c2 := hC.2.1
  have hT := hC.2.2.2.2.2.2.2 g hg
  have hG := hB.g hg
  have C1 := hC.s1 hB.wb (j := 1) (a := 234) (S 234 + 1) (by omega)
  obtain ⟨S1, hS1⟩ : ∃ S1, S1 = upI S 234 (S 234 + 1) := ⟨_, rfl⟩
  rw [← hS1] at C1
  have lo : ∀ a : Int, a < 228 → S1 a = S a := fun a h => by rw [hS1]; exact upI_n _ _ (by omega)
  have e228 : S1 228 = S 228 := by rw [hS1]; exact upI_n _ _ (by omega)
  have egm : gm S1 = gm S := by
    show Int.toNat _ = _
    rw [e228]
    rfl
  have W1 : WB S1 := ⟨by rw [egm, e228]; exact hm.1, by rw [egm]; exact hm.2, fun h hh => by
    rw [egm] at hh
    have := (hB.g hh).p.1
    have e : gn S1 h = gn S h := by
      unfold gn
      rw [lo _ (by omega)]
    omega⟩
  obtain ⟨p, hp⟩ : ∃ p, p = wr o 1 0 1 (I (S 234 + 1)) := ⟨_, rfl⟩
  rw [← hp] at C1
  obtain ⟨t, ht⟩ : ∃ t, t = tid 0 (rd o 4 0 g) := ⟨_, rfl⟩
  have ht6 : t / 6 = 0 := by rw [ht]; exact tid_0 _ _
  have e4 : p.1 4 0 = o.1 4 0 := by rw [hp]; exact wr_ne _ _ (by omega)
  have ht' : tid 0 (rd p 4 0 g) = t := by
    rw [ht]
    show tid 0 (p.1 4 0 g) = tid 0 (o.1 4 0 g)
    rw [e4]
  have hT1 := C1.2.2.2.2.2.2.2 g (by omega)
  rw [ht'] at hT1
  have fz : Fz o p := by rw [hp]; exact (Fz.rf o).wr (by omega)
  have p1 : rd p 1 0 1 = I (S 234 + 1) := by rw [hp, rd_wr]
  obtain ⟨q, hq⟩ : ∃ q, q = wr (wr p 5 t 5 (I (S 234 + 1))) 5 t 6 (I (S (38 * (g : Int) + 4))) := ⟨_, rfl⟩
  have fq : Ft p q t := by rw [hq]; exact ((Ft.rf p t).wr (by omega)).wr (by omega)
  have t4 : rd p 5 t 4 = I (S (38 * (g : Int) + 4)) := by
    rw [← lo _ (by omega)]
    exact hT1.2.2.2.2.1
  rw [← ht]
  refine ⟨q, ?_, fz.tr (fq.fz ht6), (fq.1 4 0 (by omega)).trans e4, by rw [hq, rd_wj _ _ (by omega), rd_wr], ?_⟩
  · unfold F_X2_giveSeal
    have z1 : (1 : Int32) = I 1 := rfl
    rw [c2, z1, I_add, ← hp, bd_e, p1, bd_e, rd_wj _ _ (by omega), t4, bd_e, ← hq]
  · refine CS.one (g := g) C1 W1 (hP.c e4) (by omega) (by rw [ht']; exact fq) ?_ (fun a h => ?_)
    · rw [ht']
      refine hT1.w (by rw [gn_c (lo _ (by omega))]; exact hG.p.1) (fun w hw => ?_) (fun k h1 h2 => by rw [hq, wr_ne _ _ (by omega), wr_ne _ _ (by omega)]) (fun w h1 h2 => ?_)
      · show rd q 5 t w = _
        unfold sealS
        by_cases e6 : w = 6
        · rw [hq, e6, rd_wr, show (38 * (g : Int) + ((6 : Nat) : Int)) = 38 * (g : Int) + 6 from rfl, upI_s]
        · rw [hq, rd_wj _ _ e6, upI_n _ _ (by omega)]
          by_cases e5 : w = 5
          · rw [e5, rd_wr, show (38 * (g : Int) + ((5 : Nat) : Int)) = 38 * (g : Int) + 5 from rfl, upI_s]
          · rw [rd_wj _ _ e5, upI_n _ _ (by omega), ← hS1]
            exact hT1.f hw
      · unfold sealS
        rw [upI_n _ _ (by omega), upI_n _ _ (by omega), ← hS1]
    · unfold sealS
      rw [upI_n _ _ (by omega), upI_n _ _ (by omega), ← hS1]
theorem dropTh_e (hT : TC (fun k => o.1 k t) S g) (hG : GB S g Y) (h1 : -400 ≤ z) (h2 : z ≤ 1500) : ∃ o1, F_X1_dropDegree o t (I z) = some (I (if ixf (pd S g) z (gn S g) = -1 then 0 else 1), o1) ∧ Fp o o1 t ∧ TC (fun k => o1.1 k t) (dropS S g z) g := by
  rcases dropDegree_e hT.n hT.p hG.p h1 h2 with ⟨e, f⟩ | ⟨q, q1, q2, q3, o1, e1, f1, n1, A1⟩
  · refine ⟨o, by rw [if_pos e]; exact f, Fp.rf o t, ?_⟩
    unfold dropS
    rw [if_pos e]
    exact hT
  · have hn := hG.p.1
    have ed : dropS S g z = cutS S g q := by
      unfold dropS
      rw [if_neg (by omega), q2]
      rfl
    refine ⟨o1, by rw [if_neg (by omega)]; exact e1, f1, ?_⟩
    rw [ed]
    have k5 : o1.1 5 t = o.1 5 t := f1.1 5 t (by omega)
    have eg := cutS_gn (S := S) (g := g) (q := q) hG.n q1
    have h5 : ∀ w : Nat, w < 7 → o1.1 5 t w = I (cutS S g q (38 * (g : Int) + (w : Int))) := fun w hw => by
      rw [k5, cutS_lo _ _ _ (by omega)]
      exact hT.f hw
    refine ⟨h5 0 (by omega), h5 1 (by omega), h5 2 (by omega), h5 3 (by omega), h5 4 (by omega), h5 5 (by omega), h5 6 (by omega), by rw [eg]; exact n1, ?_⟩
    rw [eg]
    exact A1.c (fun i hi => (cutS_p S g q (by omega)).1.symm) (fun i hi => (cutS_p S g q (by omega)).2.1.symm) (fun i hi => (cutS_p S g q (by omega)).2.2.symm)
theorem addPt_e (hT : TC (fun k => o.1 k t) S g) (hB : SB S Y) (hY : Y ≤ 1000000) (hG : GB S g Y) (h1 : -400 ≤ z) (h2 : z ≤ 1500) (h0 : hnd S g z = 0) : ∃ o1, F_X3_addPoint o t (I z) (I (S 233)) = some ((), o1) ∧ Fp o o1 t ∧ TC (fun k => o1.1 k t) (measS S g z) g := by
  obtain ⟨o2, e2, f2, T2⟩ := dropTh_e hT hG h1 h2
  obtain ⟨m1, m2⟩ := meas_ok hG h0
  have hM := GB.meas hB hY hG h1 h2 h0
  have hG2 := hG.drop z
  have er := readingAt_e T2 hG2 h1 h2
  rw [rdg_c (fun a a1 a2 => dropS_lo hG z (by omega))] at er
  have em : measS S g z = addS (dropS S g z) g (rdg S g z) z (S 233) := rfl
  rw [em] at hM ⊢
  obtain ⟨S2, hS2⟩ : ∃ S2, S2 = dropS S g z := ⟨_, rfl⟩
  rw [← hS2] at T2 m1 hM ⊢
  have new := addS_new S2 g (rdg S g z) z (S 233)
  have gnn := addS_gn S2 g (rdg S g z) z (S 233)
  have old := fun k hk => addS_old S2 g (rdg S g z) z (S 233) (k := k) hk
  have lo := fun a h => addS_lo S2 g (rdg S g z) z (S 233) (a := a) (Or.inl h) m1
  have hPB := hM.p
  obtain ⟨S3, hS3⟩ : ∃ S3, S3 = addS S2 g (rdg S g z) z (S 233) := ⟨_, rfl⟩
  rw [← hS3] at new gnn old lo hPB ⊢
  rw [gnn.2] at hPB
  have PA2 : PA (fun k => o2.1 k t) (gn S2 g) (pr S3 g) (pd S3 g) (py S3 g) := T2.p.c (fun i hi => (old i hi).1.symm) (fun i hi => (old i hi).2.1.symm) (fun i hi => (old i hi).2.2.symm)
  obtain ⟨o3, e3, f3, n3, A3, -⟩ := addLast_e (o := o2) (t := t) (n := gn S2 g) (r := pr S3 g) (d := pd S3 g) (y := py S3 g) T2.n PA2 hPB.2.1 m1 (fun k hk => (hPB.2.2.2.2 k hk).1)
  rw [new.1, new.2.1, new.2.2] at e3
  refine ⟨o3, ?_, f2.tr f3, ?_⟩
  · unfold F_X3_addPoint
    rw [e2, bn_e, er, bq_e, e3, bn_e]
  · have k5 : o3.1 5 t = o2.1 5 t := f3.1 5 t (by omega)
    have h5 : ∀ w : Nat, w < 7 → o3.1 5 t w = I (S3 (38 * (g : Int) + (w : Int))) := fun w hw => by
      rw [k5, lo _ (by omega)]
      exact T2.f hw
    refine ⟨h5 0 (by omega), h5 1 (by omega), h5 2 (by omega), h5 3 (by omega), h5 4 (by omega), h5 5 (by omega), h5 6 (by omega), by rw [gnn.2]; exact n3, ?_⟩
    rw [gnn.2]
    exact A3
end
