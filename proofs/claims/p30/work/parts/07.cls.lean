theorem dX1_copyFrom_0 : Dc cX1_copyFrom 0 (.aload_n 0) 1 1 := ⟨by decide +kernel, rfl⟩
theorem dX1_copyFrom_1 : Dc cX1_copyFrom 1 (.aload_n 1) 1 2 := ⟨by decide +kernel, rfl⟩
theorem dX1_copyFrom_2 : Dc cX1_copyFrom 2 (.getfield 33) 3 5 := ⟨by decide +kernel, rfl⟩
theorem dX1_copyFrom_5 : Dc cX1_copyFrom 5 (.putfield 33) 3 8 := ⟨by decide +kernel, rfl⟩
theorem dX1_copyFrom_8 : Dc cX1_copyFrom 8 (.aload_n 1) 1 9 := ⟨by decide +kernel, rfl⟩
theorem dX1_copyFrom_9 : Dc cX1_copyFrom 9 (.getfield 9) 3 12 := ⟨by decide +kernel, rfl⟩
theorem dX1_copyFrom_12 : Dc cX1_copyFrom 12 (.iconst 0) 1 13 := ⟨by decide +kernel, rfl⟩
theorem dX1_copyFrom_13 : Dc cX1_copyFrom 13 (.aload_n 0) 1 14 := ⟨by decide +kernel, rfl⟩
theorem dX1_copyFrom_14 : Dc cX1_copyFrom 14 (.getfield 9) 3 17 := ⟨by decide +kernel, rfl⟩
theorem dX1_copyFrom_17 : Dc cX1_copyFrom 17 (.iconst 0) 1 18 := ⟨by decide +kernel, rfl⟩
theorem dX1_copyFrom_18 : Dc cX1_copyFrom 18 (.aload_n 0) 1 19 := ⟨by decide +kernel, rfl⟩
theorem dX1_copyFrom_19 : Dc cX1_copyFrom 19 (.getfield 33) 3 22 := ⟨by decide +kernel, rfl⟩
theorem dX1_copyFrom_22 : Dc cX1_copyFrom 22 (.invokestatic 37) 3 25 := ⟨by decide +kernel, rfl⟩
theorem dX1_copyFrom_25 : Dc cX1_copyFrom 25 (.aload_n 1) 1 26 := ⟨by decide +kernel, rfl⟩
theorem dX1_copyFrom_26 : Dc cX1_copyFrom 26 (.getfield 15) 3 29 := ⟨by decide +kernel, rfl⟩
theorem dX1_copyFrom_29 : Dc cX1_copyFrom 29 (.iconst 0) 1 30 := ⟨by decide +kernel, rfl⟩
theorem dX1_copyFrom_30 : Dc cX1_copyFrom 30 (.aload_n 0) 1 31 := ⟨by decide +kernel, rfl⟩
theorem dX1_copyFrom_31 : Dc cX1_copyFrom 31 (.getfield 15) 3 34 := ⟨by decide +kernel, rfl⟩
theorem dX1_copyFrom_34 : Dc cX1_copyFrom 34 (.iconst 0) 1 35 := ⟨by decide +kernel, rfl⟩
theorem dX1_copyFrom_35 : Dc cX1_copyFrom 35 (.aload_n 0) 1 36 := ⟨by decide +kernel, rfl⟩
theorem dX1_copyFrom_36 : Dc cX1_copyFrom 36 (.getfield 33) 3 39 := ⟨by decide +kernel, rfl⟩
theorem dX1_copyFrom_39 : Dc cX1_copyFrom 39 (.invokestatic 37) 3 42 := ⟨by decide +kernel, rfl⟩
theorem dX1_copyFrom_42 : Dc cX1_copyFrom 42 (.aload_n 1) 1 43 := ⟨by decide +kernel, rfl⟩
theorem dX1_copyFrom_43 : Dc cX1_copyFrom 43 (.getfield 18) 3 46 := ⟨by decide +kernel, rfl⟩
theorem dX1_copyFrom_46 : Dc cX1_copyFrom 46 (.iconst 0) 1 47 := ⟨by decide +kernel, rfl⟩
theorem dX1_copyFrom_47 : Dc cX1_copyFrom 47 (.aload_n 0) 1 48 := ⟨by decide +kernel, rfl⟩
theorem dX1_copyFrom_48 : Dc cX1_copyFrom 48 (.getfield 18) 3 51 := ⟨by decide +kernel, rfl⟩
theorem dX1_copyFrom_51 : Dc cX1_copyFrom 51 (.iconst 0) 1 52 := ⟨by decide +kernel, rfl⟩
theorem dX1_copyFrom_52 : Dc cX1_copyFrom 52 (.aload_n 0) 1 53 := ⟨by decide +kernel, rfl⟩
theorem dX1_copyFrom_53 : Dc cX1_copyFrom 53 (.getfield 33) 3 56 := ⟨by decide +kernel, rfl⟩
theorem dX1_copyFrom_56 : Dc cX1_copyFrom 56 (.invokestatic 37) 3 59 := ⟨by decide +kernel, rfl⟩
theorem dX1_copyFrom_59 : Dc cX1_copyFrom 59 (.aload_n 1) 1 60 := ⟨by decide +kernel, rfl⟩
theorem dX1_copyFrom_60 : Dc cX1_copyFrom 60 (.getfield 21) 3 63 := ⟨by decide +kernel, rfl⟩
theorem dX1_copyFrom_63 : Dc cX1_copyFrom 63 (.iconst 0) 1 64 := ⟨by decide +kernel, rfl⟩
theorem dX1_copyFrom_64 : Dc cX1_copyFrom 64 (.aload_n 0) 1 65 := ⟨by decide +kernel, rfl⟩
theorem dX1_copyFrom_65 : Dc cX1_copyFrom 65 (.getfield 21) 3 68 := ⟨by decide +kernel, rfl⟩
theorem dX1_copyFrom_68 : Dc cX1_copyFrom 68 (.iconst 0) 1 69 := ⟨by decide +kernel, rfl⟩
theorem dX1_copyFrom_69 : Dc cX1_copyFrom 69 (.aload_n 0) 1 70 := ⟨by decide +kernel, rfl⟩
theorem dX1_copyFrom_70 : Dc cX1_copyFrom 70 (.getfield 33) 3 73 := ⟨by decide +kernel, rfl⟩
theorem dX1_copyFrom_73 : Dc cX1_copyFrom 73 (.invokestatic 37) 3 76 := ⟨by decide +kernel, rfl⟩
theorem dX1_copyFrom_76 : Dc cX1_copyFrom 76 (.aload_n 1) 1 77 := ⟨by decide +kernel, rfl⟩
theorem dX1_copyFrom_77 : Dc cX1_copyFrom 77 (.getfield 24) 3 80 := ⟨by decide +kernel, rfl⟩
theorem dX1_copyFrom_80 : Dc cX1_copyFrom 80 (.iconst 0) 1 81 := ⟨by decide +kernel, rfl⟩
theorem dX1_copyFrom_81 : Dc cX1_copyFrom 81 (.aload_n 0) 1 82 := ⟨by decide +kernel, rfl⟩
theorem dX1_copyFrom_82 : Dc cX1_copyFrom 82 (.getfield 24) 3 85 := ⟨by decide +kernel, rfl⟩
theorem dX1_copyFrom_85 : Dc cX1_copyFrom 85 (.iconst 0) 1 86 := ⟨by decide +kernel, rfl⟩
theorem dX1_copyFrom_86 : Dc cX1_copyFrom 86 (.aload_n 0) 1 87 := ⟨by decide +kernel, rfl⟩
theorem dX1_copyFrom_87 : Dc cX1_copyFrom 87 (.getfield 33) 3 90 := ⟨by decide +kernel, rfl⟩
theorem dX1_copyFrom_90 : Dc cX1_copyFrom 90 (.invokestatic 37) 3 93 := ⟨by decide +kernel, rfl⟩
theorem dX1_copyFrom_93 : Dc cX1_copyFrom 93 (.aload_n 1) 1 94 := ⟨by decide +kernel, rfl⟩
theorem dX1_copyFrom_94 : Dc cX1_copyFrom 94 (.getfield 27) 3 97 := ⟨by decide +kernel, rfl⟩
theorem dX1_copyFrom_97 : Dc cX1_copyFrom 97 (.iconst 0) 1 98 := ⟨by decide +kernel, rfl⟩
theorem dX1_copyFrom_98 : Dc cX1_copyFrom 98 (.aload_n 0) 1 99 := ⟨by decide +kernel, rfl⟩
theorem dX1_copyFrom_99 : Dc cX1_copyFrom 99 (.getfield 27) 3 102 := ⟨by decide +kernel, rfl⟩
theorem dX1_copyFrom_102 : Dc cX1_copyFrom 102 (.iconst 0) 1 103 := ⟨by decide +kernel, rfl⟩
theorem dX1_copyFrom_103 : Dc cX1_copyFrom 103 (.aload_n 0) 1 104 := ⟨by decide +kernel, rfl⟩
theorem dX1_copyFrom_104 : Dc cX1_copyFrom 104 (.getfield 33) 3 107 := ⟨by decide +kernel, rfl⟩
theorem dX1_copyFrom_107 : Dc cX1_copyFrom 107 (.invokestatic 37) 3 110 := ⟨by decide +kernel, rfl⟩
theorem dX1_copyFrom_110 : Dc cX1_copyFrom 110 (.aload_n 1) 1 111 := ⟨by decide +kernel, rfl⟩
theorem dX1_copyFrom_111 : Dc cX1_copyFrom 111 (.getfield 30) 3 114 := ⟨by decide +kernel, rfl⟩
theorem dX1_copyFrom_114 : Dc cX1_copyFrom 114 (.iconst 0) 1 115 := ⟨by decide +kernel, rfl⟩
theorem dX1_copyFrom_115 : Dc cX1_copyFrom 115 (.aload_n 0) 1 116 := ⟨by decide +kernel, rfl⟩
theorem dX1_copyFrom_116 : Dc cX1_copyFrom 116 (.getfield 30) 3 119 := ⟨by decide +kernel, rfl⟩
theorem dX1_copyFrom_119 : Dc cX1_copyFrom 119 (.iconst 0) 1 120 := ⟨by decide +kernel, rfl⟩
theorem dX1_copyFrom_120 : Dc cX1_copyFrom 120 (.aload_n 0) 1 121 := ⟨by decide +kernel, rfl⟩
theorem dX1_copyFrom_121 : Dc cX1_copyFrom 121 (.getfield 33) 3 124 := ⟨by decide +kernel, rfl⟩
theorem dX1_copyFrom_124 : Dc cX1_copyFrom 124 (.invokestatic 37) 3 127 := ⟨by decide +kernel, rfl⟩
theorem dX1_copyFrom_127 : Dc cX1_copyFrom 127 (.return_) 1 128 := ⟨by decide +kernel, rfl⟩
def F_X1_copyFrom (o : OM) (t0 : Nat) (t1 : Nat) : Option (Unit × OM) := bd (wr o 6 t0 0 (rd o 6 t1 0)) (fun o_1 : OM => grd (inC (rd o_1 6 t0 0) 10 10) (bd (wrA o_1 7 t0 (va_cpy (o_1.1 7 t1) (o_1.1 7 t0) 0 0 (rd o_1 6 t0 0).toNatClampNeg)) (fun o_2 : OM => grd (inC (rd o_2 6 t0 0) 10 10) (bd (wrA o_2 8 t0 (va_cpy (o_2.1 8 t1) (o_2.1 8 t0) 0 0 (rd o_2 6 t0 0).toNatClampNeg)) (fun o_3 : OM => grd (inC (rd o_3 6 t0 0) 10 10) (bd (wrA o_3 9 t0 (va_cpy (o_3.1 9 t1) (o_3.1 9 t0) 0 0 (rd o_3 6 t0 0).toNatClampNeg)) (fun o_4 : OM => grd (inC (rd o_4 6 t0 0) 10 10) (bd (wrA o_4 10 t0 (va_cpy (o_4.1 10 t1) (o_4.1 10 t0) 0 0 (rd o_4 6 t0 0).toNatClampNeg)) (fun o_5 : OM => grd (inC (rd o_5 6 t0 0) 10 10) (bd (wrA o_5 11 t0 (va_cpy (o_5.1 11 t1) (o_5.1 11 t0) 0 0 (rd o_5 6 t0 0).toNatClampNeg)) (fun o_6 : OM => grd (inC (rd o_6 6 t0 0) 10 10) (bd (wrA o_6 12 t0 (va_cpy (o_6.1 12 t1) (o_6.1 12 t0) 0 0 (rd o_6 6 t0 0).toNatClampNeg)) (fun o_7 : OM => grd (inC (rd o_7 6 t0 0) 10 10) (bd (wrA o_7 13 t0 (va_cpy (o_7.1 13 t1) (o_7.1 13 t0) 0 0 (rd o_7 6 t0 0).toNatClampNeg)) (fun o_8 : OM => some ((), o_8))))))))))))))))
abbrev rmX1_copyFrom : Room := { frames := 1, cells := 0, slots := 0, locals := 40 }
set_option maxHeartbeats 4000000 in
set_option maxRecDepth 100000 in
theorem wX1_copyFrom {G : Gd} {p : Program} {l : Launch} {e : Env} {s : State} {m : MethodId} {args : Array Value} {below : List Frame} {meth : Method} {c : Code} {o : OM} {H : Heap} {L0 : List Loc} {ls : Array Slot} {r : Unit} {o9 : OM} {t0 : Nat} {t1 : Nat} (C : Cx G RX1 cX1_copyFrom 2 none p s m args meth c) (ht0 : okb 6 t0 = true) (ht1 : okb 6 t1 = true) (P : Hp G o s H L0) (hl : lv_has ls 2 [(0, .ref (rA G 6 t0)), (1, .ref (rA G 6 t1))]) (hf : F_X1_copyFrom o t0 t1 = some (r, o9)) : W p l e rmX1_copyFrom s m args below meth c H L0 0 0 (Qm G none o9 rmX1_copyFrom below args s) (F0 m 0 ls []) := by
  unfold F_X1_copyFrom at hf
  refine r_aload_n C hl 0 rfl rfl dX1_copyFrom_0 ?_
  refine r_aload_n C hl 1 rfl rfl dX1_copyFrom_1 ?_
  refine gf_6_0 C P ht1 wd_62 dX1_copyFrom_2 ?_
  refine pf_6_0 C P ht0 wd_62 dX1_copyFrom_5 hf (fun o_1 H1 L1 P hf => ?_)
  refine r_aload_n C hl 1 rfl rfl dX1_copyFrom_8 ?_
  refine gf_6_1 C P ht1 wd_66 dX1_copyFrom_9 ?_
  refine r_iconst C (v := 0) (by decide) dX1_copyFrom_12 ?_
  refine r_aload_n C hl 0 rfl rfl dX1_copyFrom_13 ?_
  refine gf_6_1 C P ht0 wd_66 dX1_copyFrom_14 ?_
  refine r_iconst C (v := 0) (by decide) dX1_copyFrom_17 ?_
  refine r_aload_n C hl 0 rfl rfl dX1_copyFrom_18 ?_
  refine gf_6_0 C P ht0 wd_62 dX1_copyFrom_19 ?_
  refine r_copy C P (k := 7) (i := t1) (k1 := 7) (i1 := t0) (N := 10) (M := 10) (fun _ _ => rfl) (fun _ _ => rfl) ht1 ht0 wd_314 wd_305 wd_304 wd_21 hl.1 ⟨Nat.le_of_ble_eq_true rfl, Nat.le_of_ble_eq_true rfl⟩ dX1_copyFrom_22 hf (fun o_2 H1 L1 P hf => ?_)
  refine r_aload_n C hl 1 rfl rfl dX1_copyFrom_25 ?_
  refine gf_6_2 C P ht1 wd_68 dX1_copyFrom_26 ?_
  refine r_iconst C (v := 0) (by decide) dX1_copyFrom_29 ?_
  refine r_aload_n C hl 0 rfl rfl dX1_copyFrom_30 ?_
  refine gf_6_2 C P ht0 wd_68 dX1_copyFrom_31 ?_
  refine r_iconst C (v := 0) (by decide) dX1_copyFrom_34 ?_
  refine r_aload_n C hl 0 rfl rfl dX1_copyFrom_35 ?_
  refine gf_6_0 C P ht0 wd_62 dX1_copyFrom_36 ?_
  refine r_copy C P (k := 8) (i := t1) (k1 := 8) (i1 := t0) (N := 10) (M := 10) (fun _ _ => rfl) (fun _ _ => rfl) ht1 ht0 wd_314 wd_305 wd_304 wd_21 hl.1 ⟨Nat.le_of_ble_eq_true rfl, Nat.le_of_ble_eq_true rfl⟩ dX1_copyFrom_39 hf (fun o_3 H1 L1 P hf => ?_)
  refine r_aload_n C hl 1 rfl rfl dX1_copyFrom_42 ?_
  refine gf_6_3 C P ht1 wd_70 dX1_copyFrom_43 ?_
  refine r_iconst C (v := 0) (by decide) dX1_copyFrom_46 ?_
  refine r_aload_n C hl 0 rfl rfl dX1_copyFrom_47 ?_
  refine gf_6_3 C P ht0 wd_70 dX1_copyFrom_48 ?_
  refine r_iconst C (v := 0) (by decide) dX1_copyFrom_51 ?_
  refine r_aload_n C hl 0 rfl rfl dX1_copyFrom_52 ?_
  refine gf_6_0 C P ht0 wd_62 dX1_copyFrom_53 ?_
  refine r_copy C P (k := 9) (i := t1) (k1 := 9) (i1 := t0) (N := 10) (M := 10) (fun _ _ => rfl) (fun _ _ => rfl) ht1 ht0 wd_314 wd_305 wd_304 wd_21 hl.1 ⟨Nat.le_of_ble_eq_true rfl, Nat.le_of_ble_eq_true rfl⟩ dX1_copyFrom_56 hf (fun o_4 H1 L1 P hf => ?_)
  refine r_aload_n C hl 1 rfl rfl dX1_copyFrom_59 ?_
  refine gf_6_4 C P ht1 wd_73 dX1_copyFrom_60 ?_
  refine r_iconst C (v := 0) (by decide) dX1_copyFrom_63 ?_
  refine r_aload_n C hl 0 rfl rfl dX1_copyFrom_64 ?_
  refine gf_6_4 C P ht0 wd_73 dX1_copyFrom_65 ?_
  refine r_iconst C (v := 0) (by decide) dX1_copyFrom_68 ?_
  refine r_aload_n C hl 0 rfl rfl dX1_copyFrom_69 ?_
  refine gf_6_0 C P ht0 wd_62 dX1_copyFrom_70 ?_
  refine r_copy C P (k := 10) (i := t1) (k1 := 10) (i1 := t0) (N := 10) (M := 10) (fun _ _ => rfl) (fun _ _ => rfl) ht1 ht0 wd_314 wd_305 wd_304 wd_21 hl.1 ⟨Nat.le_of_ble_eq_true rfl, Nat.le_of_ble_eq_true rfl⟩ dX1_copyFrom_73 hf (fun o_5 H1 L1 P hf => ?_)
  refine r_aload_n C hl 1 rfl rfl dX1_copyFrom_76 ?_
  refine gf_6_5 C P ht1 wd_74 dX1_copyFrom_77 ?_
  refine r_iconst C (v := 0) (by decide) dX1_copyFrom_80 ?_
  refine r_aload_n C hl 0 rfl rfl dX1_copyFrom_81 ?_
  refine gf_6_5 C P ht0 wd_74 dX1_copyFrom_82 ?_
  refine r_iconst C (v := 0) (by decide) dX1_copyFrom_85 ?_
  refine r_aload_n C hl 0 rfl rfl dX1_copyFrom_86 ?_
  refine gf_6_0 C P ht0 wd_62 dX1_copyFrom_87 ?_
  refine r_copy C P (k := 11) (i := t1) (k1 := 11) (i1 := t0) (N := 10) (M := 10) (fun _ _ => rfl) (fun _ _ => rfl) ht1 ht0 wd_314 wd_305 wd_304 wd_21 hl.1 ⟨Nat.le_of_ble_eq_true rfl, Nat.le_of_ble_eq_true rfl⟩ dX1_copyFrom_90 hf (fun o_6 H1 L1 P hf => ?_)
  refine r_aload_n C hl 1 rfl rfl dX1_copyFrom_93 ?_
  refine gf_6_6 C P ht1 wd_75 dX1_copyFrom_94 ?_
  refine r_iconst C (v := 0) (by decide) dX1_copyFrom_97 ?_
  refine r_aload_n C hl 0 rfl rfl dX1_copyFrom_98 ?_
  refine gf_6_6 C P ht0 wd_75 dX1_copyFrom_99 ?_
  refine r_iconst C (v := 0) (by decide) dX1_copyFrom_102 ?_
  refine r_aload_n C hl 0 rfl rfl dX1_copyFrom_103 ?_
  refine gf_6_0 C P ht0 wd_62 dX1_copyFrom_104 ?_
  refine r_copy C P (k := 12) (i := t1) (k1 := 12) (i1 := t0) (N := 10) (M := 10) (fun _ _ => rfl) (fun _ _ => rfl) ht1 ht0 wd_314 wd_305 wd_304 wd_21 hl.1 ⟨Nat.le_of_ble_eq_true rfl, Nat.le_of_ble_eq_true rfl⟩ dX1_copyFrom_107 hf (fun o_7 H1 L1 P hf => ?_)
  refine r_aload_n C hl 1 rfl rfl dX1_copyFrom_110 ?_
  refine gf_6_7 C P ht1 wd_77 dX1_copyFrom_111 ?_
  refine r_iconst C (v := 0) (by decide) dX1_copyFrom_114 ?_
  refine r_aload_n C hl 0 rfl rfl dX1_copyFrom_115 ?_
  refine gf_6_7 C P ht0 wd_77 dX1_copyFrom_116 ?_
  refine r_iconst C (v := 0) (by decide) dX1_copyFrom_119 ?_
  refine r_aload_n C hl 0 rfl rfl dX1_copyFrom_120 ?_
  refine gf_6_0 C P ht0 wd_62 dX1_copyFrom_121 ?_
  refine r_copy C P (k := 13) (i := t1) (k1 := 13) (i1 := t0) (N := 10) (M := 10) (fun _ _ => rfl) (fun _ _ => rfl) ht1 ht0 wd_314 wd_305 wd_304 wd_21 hl.1 ⟨Nat.le_of_ble_eq_true rfl, Nat.le_of_ble_eq_true rfl⟩ dX1_copyFrom_124 hf (fun o_8 H1 L1 P hf => ?_)
  exact r_vret C P (rm := rmX1_copyFrom) ⟨rfl, rfl⟩ dX1_copyFrom_127 hf
theorem ctX1_copyFrom (l : Launch) (G : Gd) (o : OM) (t0 : Nat) (t1 : Nat) (ht0 : okb 6 t0 = true) (ht1 : okb 6 t1 = true) {r : Unit} {o9 : OM} (hf : F_X1_copyFrom o t0 t1 = some (r, o9)) : Ct l yX1_copyFrom cX1_copyFrom 2 none rmX1_copyFrom G [.ref (rA G 6 t0), .ref (rA G 6 t1)] o none o9 := ct_of (by decide +kernel) (Nat.le_of_ble_eq_true rfl) (fun p e s m below meth c ls C P hl => wX1_copyFrom C ht0 ht1 P hl hf)
theorem cf_X3_43 : CallF false RX3 43 yX1_copyFrom cX1_copyFrom 2 none 1 := ⟨wd_310, (by rw [if_neg (by decide)]; exact ⟨wd_311, wd_312⟩), wd_13, wd_313, by decide, by decide +kernel⟩
theorem dX3_copyFrom_0 : Dc cX3_copyFrom 0 (.aload_n 0) 1 1 := ⟨by decide +kernel, rfl⟩
theorem dX3_copyFrom_1 : Dc cX3_copyFrom 1 (.aload_n 1) 1 2 := ⟨by decide +kernel, rfl⟩
theorem dX3_copyFrom_2 : Dc cX3_copyFrom 2 (.getfield 22) 3 5 := ⟨by decide +kernel, rfl⟩
theorem dX3_copyFrom_5 : Dc cX3_copyFrom 5 (.putfield 22) 3 8 := ⟨by decide +kernel, rfl⟩
theorem dX3_copyFrom_8 : Dc cX3_copyFrom 8 (.aload_n 0) 1 9 := ⟨by decide +kernel, rfl⟩
theorem dX3_copyFrom_9 : Dc cX3_copyFrom 9 (.aload_n 1) 1 10 := ⟨by decide +kernel, rfl⟩
theorem dX3_copyFrom_10 : Dc cX3_copyFrom 10 (.getfield 25) 3 13 := ⟨by decide +kernel, rfl⟩
theorem dX3_copyFrom_13 : Dc cX3_copyFrom 13 (.putfield 25) 3 16 := ⟨by decide +kernel, rfl⟩
theorem dX3_copyFrom_16 : Dc cX3_copyFrom 16 (.aload_n 0) 1 17 := ⟨by decide +kernel, rfl⟩
theorem dX3_copyFrom_17 : Dc cX3_copyFrom 17 (.aload_n 1) 1 18 := ⟨by decide +kernel, rfl⟩
theorem dX3_copyFrom_18 : Dc cX3_copyFrom 18 (.getfield 28) 3 21 := ⟨by decide +kernel, rfl⟩
theorem dX3_copyFrom_21 : Dc cX3_copyFrom 21 (.putfield 28) 3 24 := ⟨by decide +kernel, rfl⟩
theorem dX3_copyFrom_24 : Dc cX3_copyFrom 24 (.aload_n 0) 1 25 := ⟨by decide +kernel, rfl⟩
theorem dX3_copyFrom_25 : Dc cX3_copyFrom 25 (.aload_n 1) 1 26 := ⟨by decide +kernel, rfl⟩
theorem dX3_copyFrom_26 : Dc cX3_copyFrom 26 (.getfield 31) 3 29 := ⟨by decide +kernel, rfl⟩
theorem dX3_copyFrom_29 : Dc cX3_copyFrom 29 (.putfield 31) 3 32 := ⟨by decide +kernel, rfl⟩
theorem dX3_copyFrom_32 : Dc cX3_copyFrom 32 (.aload_n 0) 1 33 := ⟨by decide +kernel, rfl⟩
theorem dX3_copyFrom_33 : Dc cX3_copyFrom 33 (.aload_n 1) 1 34 := ⟨by decide +kernel, rfl⟩
theorem dX3_copyFrom_34 : Dc cX3_copyFrom 34 (.getfield 34) 3 37 := ⟨by decide +kernel, rfl⟩
theorem dX3_copyFrom_37 : Dc cX3_copyFrom 37 (.putfield 34) 3 40 := ⟨by decide +kernel, rfl⟩
theorem dX3_copyFrom_40 : Dc cX3_copyFrom 40 (.aload_n 0) 1 41 := ⟨by decide +kernel, rfl⟩
theorem dX3_copyFrom_41 : Dc cX3_copyFrom 41 (.aload_n 1) 1 42 := ⟨by decide +kernel, rfl⟩
theorem dX3_copyFrom_42 : Dc cX3_copyFrom 42 (.getfield 9) 3 45 := ⟨by decide +kernel, rfl⟩
theorem dX3_copyFrom_45 : Dc cX3_copyFrom 45 (.putfield 9) 3 48 := ⟨by decide +kernel, rfl⟩
theorem dX3_copyFrom_48 : Dc cX3_copyFrom 48 (.aload_n 0) 1 49 := ⟨by decide +kernel, rfl⟩
theorem dX3_copyFrom_49 : Dc cX3_copyFrom 49 (.aload_n 1) 1 50 := ⟨by decide +kernel, rfl⟩
theorem dX3_copyFrom_50 : Dc cX3_copyFrom 50 (.getfield 37) 3 53 := ⟨by decide +kernel, rfl⟩
theorem dX3_copyFrom_53 : Dc cX3_copyFrom 53 (.putfield 37) 3 56 := ⟨by decide +kernel, rfl⟩
theorem dX3_copyFrom_56 : Dc cX3_copyFrom 56 (.aload_n 0) 1 57 := ⟨by decide +kernel, rfl⟩
theorem dX3_copyFrom_57 : Dc cX3_copyFrom 57 (.getfield 18) 3 60 := ⟨by decide +kernel, rfl⟩
theorem dX3_copyFrom_60 : Dc cX3_copyFrom 60 (.aload_n 1) 1 61 := ⟨by decide +kernel, rfl⟩
theorem dX3_copyFrom_61 : Dc cX3_copyFrom 61 (.getfield 18) 3 64 := ⟨by decide +kernel, rfl⟩
theorem dX3_copyFrom_64 : Dc cX3_copyFrom 64 (.invokevirtual 43) 3 67 := ⟨by decide +kernel, rfl⟩
theorem dX3_copyFrom_67 : Dc cX3_copyFrom 67 (.return_) 1 68 := ⟨by decide +kernel, rfl⟩
def F_X3_copyFrom (o : OM) (t0 : Nat) (t1 : Nat) : Option (Unit × OM) := bd (wr o 5 t0 0 (rd o 5 t1 0)) (fun o_1 : OM => bd (wr o_1 5 t0 1 (rd o_1 5 t1 1)) (fun o_2 : OM => bd (wr o_2 5 t0 2 (rd o_2 5 t1 2)) (fun o_3 : OM => bd (wr o_3 5 t0 3 (rd o_3 5 t1 3)) (fun o_4 : OM => bd (wr o_4 5 t0 4 (rd o_4 5 t1 4)) (fun o_5 : OM => bd (wr o_5 5 t0 5 (rd o_5 5 t1 5)) (fun o_6 : OM => bd (wr o_6 5 t0 6 (rd o_6 5 t1 6)) (fun o_7 : OM => bn (F_X1_copyFrom o_7 t0 t1) (fun _ o_9 => some ((), o_9)))))))))
abbrev rmX3_copyFrom : Room := { frames := 2, cells := 0, slots := 0, locals := 61 }
set_option maxHeartbeats 4000000 in
set_option maxRecDepth 100000 in
theorem wX3_copyFrom {G : Gd} {p : Program} {l : Launch} {e : Env} {s : State} {m : MethodId} {args : Array Value} {below : List Frame} {meth : Method} {c : Code} {o : OM} {H : Heap} {L0 : List Loc} {ls : Array Slot} {r : Unit} {o9 : OM} {t0 : Nat} {t1 : Nat} (C : Cx G RX3 cX3_copyFrom 2 none p s m args meth c) (ht0 : okb 5 t0 = true) (ht1 : okb 5 t1 = true) (P : Hp G o s H L0) (hl : lv_has ls 2 [(0, .ref (rA G 5 t0)), (1, .ref (rA G 5 t1))]) (hf : F_X3_copyFrom o t0 t1 = some (r, o9)) : W p l e rmX3_copyFrom s m args below meth c H L0 0 0 (Qm G none o9 rmX3_copyFrom below args s) (F0 m 0 ls []) := by
  unfold F_X3_copyFrom at hf
  refine r_aload_n C hl 0 rfl rfl dX3_copyFrom_0 ?_
  refine r_aload_n C hl 1 rfl rfl dX3_copyFrom_1 ?_
  refine gf_5_0 C P ht1 wd_97 dX3_copyFrom_2 ?_
  refine pf_5_0 C P ht0 wd_97 dX3_copyFrom_5 hf (fun o_1 H1 L1 P hf => ?_)
  refine r_aload_n C hl 0 rfl rfl dX3_copyFrom_8 ?_
  refine r_aload_n C hl 1 rfl rfl dX3_copyFrom_9 ?_
  refine gf_5_1 C P ht1 wd_98 dX3_copyFrom_10 ?_
  refine pf_5_1 C P ht0 wd_98 dX3_copyFrom_13 hf (fun o_2 H1 L1 P hf => ?_)
  refine r_aload_n C hl 0 rfl rfl dX3_copyFrom_16 ?_
  refine r_aload_n C hl 1 rfl rfl dX3_copyFrom_17 ?_
  refine gf_5_2 C P ht1 wd_99 dX3_copyFrom_18 ?_
  refine pf_5_2 C P ht0 wd_99 dX3_copyFrom_21 hf (fun o_3 H1 L1 P hf => ?_)
  refine r_aload_n C hl 0 rfl rfl dX3_copyFrom_24 ?_
  refine r_aload_n C hl 1 rfl rfl dX3_copyFrom_25 ?_
  refine gf_5_3 C P ht1 wd_102 dX3_copyFrom_26 ?_
  refine pf_5_3 C P ht0 wd_102 dX3_copyFrom_29 hf (fun o_4 H1 L1 P hf => ?_)
  refine r_aload_n C hl 0 rfl rfl dX3_copyFrom_32 ?_
  refine r_aload_n C hl 1 rfl rfl dX3_copyFrom_33 ?_
  refine gf_5_4 C P ht1 wd_105 dX3_copyFrom_34 ?_
  refine pf_5_4 C P ht0 wd_105 dX3_copyFrom_37 hf (fun o_5 H1 L1 P hf => ?_)
  refine r_aload_n C hl 0 rfl rfl dX3_copyFrom_40 ?_
  refine r_aload_n C hl 1 rfl rfl dX3_copyFrom_41 ?_
  refine gf_5_5 C P ht1 wd_108 dX3_copyFrom_42 ?_
  refine pf_5_5 C P ht0 wd_108 dX3_copyFrom_45 hf (fun o_6 H1 L1 P hf => ?_)
  refine r_aload_n C hl 0 rfl rfl dX3_copyFrom_48 ?_
  refine r_aload_n C hl 1 rfl rfl dX3_copyFrom_49 ?_
  refine gf_5_6 C P ht1 wd_111 dX3_copyFrom_50 ?_
  refine pf_5_6 C P ht0 wd_111 dX3_copyFrom_53 hf (fun o_7 H1 L1 P hf => ?_)
  refine r_aload_n C hl 0 rfl rfl dX3_copyFrom_56 ?_
  refine gf_5_7 C P ht0 wd_113 dX3_copyFrom_57 ?_
  refine r_aload_n C hl 1 rfl rfl dX3_copyFrom_60 ?_
  refine gf_5_7 C P ht1 wd_113 dX3_copyFrom_61 ?_
  refine r_cVv C P cf_X3_43 (rm := rmX1_copyFrom) 6 t0 (fun _ _ => ⟨_, rfl⟩) rfl rfl ht0 [.ref (rA G 6 t1)] [] hf (fun _ _ h => ctX1_copyFrom l G o_7 t0 t1 ht0 ht1 h) ⟨rfl, rfl⟩ ⟨Nat.le_of_ble_eq_true rfl, Nat.le_of_ble_eq_true rfl⟩ ⟨Nat.le_of_ble_eq_true rfl, Nat.le_of_ble_eq_true rfl⟩ rfl rfl hl.1 (Nat.le_of_ble_eq_true rfl) dX3_copyFrom_64 (fun _ o_9 H1 L1 P hf => ?_)
  exact r_vret C P (rm := rmX3_copyFrom) ⟨rfl, rfl⟩ dX3_copyFrom_67 hf
theorem ctX3_copyFrom (l : Launch) (G : Gd) (o : OM) (t0 : Nat) (t1 : Nat) (ht0 : okb 5 t0 = true) (ht1 : okb 5 t1 = true) {r : Unit} {o9 : OM} (hf : F_X3_copyFrom o t0 t1 = some (r, o9)) : Ct l yX3_copyFrom cX3_copyFrom 2 none rmX3_copyFrom G [.ref (rA G 5 t0), .ref (rA G 5 t1)] o none o9 := ct_of (by decide +kernel) (Nat.le_of_ble_eq_true rfl) (fun p e s m below meth c ls C P hl => wX3_copyFrom C ht0 ht1 P hl hf)
theorem cf_X2_58 : CallF false RX2 58 yX3_copyFrom cX3_copyFrom 2 none 1 := ⟨wd_306, (by rw [if_neg (by decide)]; exact ⟨wd_307, wd_308⟩), wd_12, wd_309, by decide, by decide +kernel⟩
theorem dX2_copyFrom_0 : Dc cX2_copyFrom 0 (.aload_n 0) 1 1 := ⟨by decide +kernel, rfl⟩
theorem dX2_copyFrom_1 : Dc cX2_copyFrom 1 (.aload_n 1) 1 2 := ⟨by decide +kernel, rfl⟩
theorem dX2_copyFrom_2 : Dc cX2_copyFrom 2 (.getfield 43) 3 5 := ⟨by decide +kernel, rfl⟩
theorem dX2_copyFrom_5 : Dc cX2_copyFrom 5 (.putfield 43) 3 8 := ⟨by decide +kernel, rfl⟩
theorem dX2_copyFrom_8 : Dc cX2_copyFrom 8 (.aload_n 0) 1 9 := ⟨by decide +kernel, rfl⟩
theorem dX2_copyFrom_9 : Dc cX2_copyFrom 9 (.aload_n 1) 1 10 := ⟨by decide +kernel, rfl⟩
theorem dX2_copyFrom_10 : Dc cX2_copyFrom 10 (.getfield 46) 3 13 := ⟨by decide +kernel, rfl⟩
theorem dX2_copyFrom_13 : Dc cX2_copyFrom 13 (.putfield 46) 3 16 := ⟨by decide +kernel, rfl⟩
theorem dX2_copyFrom_16 : Dc cX2_copyFrom 16 (.aload_n 0) 1 17 := ⟨by decide +kernel, rfl⟩
theorem dX2_copyFrom_17 : Dc cX2_copyFrom 17 (.aload_n 1) 1 18 := ⟨by decide +kernel, rfl⟩
theorem dX2_copyFrom_18 : Dc cX2_copyFrom 18 (.getfield 49) 3 21 := ⟨by decide +kernel, rfl⟩
theorem dX2_copyFrom_21 : Dc cX2_copyFrom 21 (.putfield 49) 3 24 := ⟨by decide +kernel, rfl⟩
theorem dX2_copyFrom_24 : Dc cX2_copyFrom 24 (.aload_n 0) 1 25 := ⟨by decide +kernel, rfl⟩
theorem dX2_copyFrom_25 : Dc cX2_copyFrom 25 (.aload_n 1) 1 26 := ⟨by decide +kernel, rfl⟩
theorem dX2_copyFrom_26 : Dc cX2_copyFrom 26 (.getfield 9) 3 29 := ⟨by decide +kernel, rfl⟩
theorem dX2_copyFrom_29 : Dc cX2_copyFrom 29 (.putfield 9) 3 32 := ⟨by decide +kernel, rfl⟩
theorem dX2_copyFrom_32 : Dc cX2_copyFrom 32 (.aload_n 0) 1 33 := ⟨by decide +kernel, rfl⟩
theorem dX2_copyFrom_33 : Dc cX2_copyFrom 33 (.aload_n 1) 1 34 := ⟨by decide +kernel, rfl⟩
theorem dX2_copyFrom_34 : Dc cX2_copyFrom 34 (.getfield 15) 3 37 := ⟨by decide +kernel, rfl⟩
theorem dX2_copyFrom_37 : Dc cX2_copyFrom 37 (.putfield 15) 3 40 := ⟨by decide +kernel, rfl⟩
theorem dX2_copyFrom_40 : Dc cX2_copyFrom 40 (.aload_n 1) 1 41 := ⟨by decide +kernel, rfl⟩
theorem dX2_copyFrom_41 : Dc cX2_copyFrom 41 (.getfield 27) 3 44 := ⟨by decide +kernel, rfl⟩
theorem dX2_copyFrom_44 : Dc cX2_copyFrom 44 (.iconst 0) 1 45 := ⟨by decide +kernel, rfl⟩
theorem dX2_copyFrom_45 : Dc cX2_copyFrom 45 (.aload_n 0) 1 46 := ⟨by decide +kernel, rfl⟩
theorem dX2_copyFrom_46 : Dc cX2_copyFrom 46 (.getfield 27) 3 49 := ⟨by decide +kernel, rfl⟩
theorem dX2_copyFrom_49 : Dc cX2_copyFrom 49 (.iconst 0) 1 50 := ⟨by decide +kernel, rfl⟩
theorem dX2_copyFrom_50 : Dc cX2_copyFrom 50 (.aload_n 0) 1 51 := ⟨by decide +kernel, rfl⟩
theorem dX2_copyFrom_51 : Dc cX2_copyFrom 51 (.getfield 27) 3 54 := ⟨by decide +kernel, rfl⟩
theorem dX2_copyFrom_54 : Dc cX2_copyFrom 54 (.arraylength) 1 55 := ⟨by decide +kernel, rfl⟩
theorem dX2_copyFrom_55 : Dc cX2_copyFrom 55 (.invokestatic 52) 3 58 := ⟨by decide +kernel, rfl⟩
theorem dX2_copyFrom_58 : Dc cX2_copyFrom 58 (.aload_n 1) 1 59 := ⟨by decide +kernel, rfl⟩
theorem dX2_copyFrom_59 : Dc cX2_copyFrom 59 (.getfield 33) 3 62 := ⟨by decide +kernel, rfl⟩
theorem dX2_copyFrom_62 : Dc cX2_copyFrom 62 (.iconst 0) 1 63 := ⟨by decide +kernel, rfl⟩
theorem dX2_copyFrom_63 : Dc cX2_copyFrom 63 (.aload_n 0) 1 64 := ⟨by decide +kernel, rfl⟩
theorem dX2_copyFrom_64 : Dc cX2_copyFrom 64 (.getfield 33) 3 67 := ⟨by decide +kernel, rfl⟩
theorem dX2_copyFrom_67 : Dc cX2_copyFrom 67 (.iconst 0) 1 68 := ⟨by decide +kernel, rfl⟩
theorem dX2_copyFrom_68 : Dc cX2_copyFrom 68 (.aload_n 0) 1 69 := ⟨by decide +kernel, rfl⟩
theorem dX2_copyFrom_69 : Dc cX2_copyFrom 69 (.getfield 33) 3 72 := ⟨by decide +kernel, rfl⟩
theorem dX2_copyFrom_72 : Dc cX2_copyFrom 72 (.arraylength) 1 73 := ⟨by decide +kernel, rfl⟩
theorem dX2_copyFrom_73 : Dc cX2_copyFrom 73 (.invokestatic 52) 3 76 := ⟨by decide +kernel, rfl⟩
theorem dX2_copyFrom_76 : Dc cX2_copyFrom 76 (.iconst 0) 1 77 := ⟨by decide +kernel, rfl⟩
theorem dX2_copyFrom_77 : Dc cX2_copyFrom 77 (.istore_n 2) 1 78 := ⟨by decide +kernel, rfl⟩
theorem dX2_copyFrom_78 : Dc cX2_copyFrom 78 (.iload_n 2) 1 79 := ⟨by decide +kernel, rfl⟩
theorem dX2_copyFrom_79 : Dc cX2_copyFrom 79 (.aload_n 0) 1 80 := ⟨by decide +kernel, rfl⟩
theorem dX2_copyFrom_80 : Dc cX2_copyFrom 80 (.getfield 49) 3 83 := ⟨by decide +kernel, rfl⟩
theorem dX2_copyFrom_83 : Dj cX2_copyFrom 83 (.if_icmp .ge 24) 3 86 (24) 107 := ⟨by decide +kernel, rfl, by decide⟩
theorem dX2_copyFrom_86 : Dc cX2_copyFrom 86 (.aload_n 0) 1 87 := ⟨by decide +kernel, rfl⟩
theorem dX2_copyFrom_87 : Dc cX2_copyFrom 87 (.getfield 38) 3 90 := ⟨by decide +kernel, rfl⟩
theorem dX2_copyFrom_90 : Dc cX2_copyFrom 90 (.iload_n 2) 1 91 := ⟨by decide +kernel, rfl⟩
theorem dX2_copyFrom_91 : Dc cX2_copyFrom 91 (.aaload) 1 92 := ⟨by decide +kernel, rfl⟩
theorem dX2_copyFrom_92 : Dc cX2_copyFrom 92 (.aload_n 1) 1 93 := ⟨by decide +kernel, rfl⟩
theorem dX2_copyFrom_93 : Dc cX2_copyFrom 93 (.getfield 38) 3 96 := ⟨by decide +kernel, rfl⟩
theorem dX2_copyFrom_96 : Dc cX2_copyFrom 96 (.iload_n 2) 1 97 := ⟨by decide +kernel, rfl⟩
theorem dX2_copyFrom_97 : Dc cX2_copyFrom 97 (.aaload) 1 98 := ⟨by decide +kernel, rfl⟩
theorem dX2_copyFrom_98 : Dc cX2_copyFrom 98 (.invokevirtual 58) 3 101 := ⟨by decide +kernel, rfl⟩
theorem dX2_copyFrom_101 : Dc cX2_copyFrom 101 (.iinc 2 1) 3 104 := ⟨by decide +kernel, rfl⟩
theorem dX2_copyFrom_104 : Dj cX2_copyFrom 104 (.goto (-26)) 3 107 (-26) 78 := ⟨by decide +kernel, rfl, by decide⟩
theorem dX2_copyFrom_107 : Dc cX2_copyFrom 107 (.return_) 1 108 := ⟨by decide +kernel, rfl⟩
def LX2_copyFrom_78 (k107 : OM → Option (Unit × OM)) (t0 : Nat) (t1 : Nat) : Nat → OM → Int32 → Option (Unit × OM)
  | 0 => fun _ _ => none
  | n + 1 => fun o_10 v2_9 => if (rd o_10 1 t0 2) ≤ v2_9 then (k107 o_10) else (grd (inB v2_9 6) (bd (tid t0 (rd o_10 4 t0 v2_9.toNatClampNeg)) (fun t_11 : Nat => grd (inB v2_9 6) (bd (tid t1 (rd o_10 4 t1 v2_9.toNatClampNeg)) (fun t_12 : Nat => bn (F_X3_copyFrom o_10 t_11 t_12) (fun _ o_14 => bd (v2_9 + (1 : Int32)) (fun v2_15 : Int32 => (LX2_copyFrom_78 k107 t0 t1 n) o_14 v2_15)))))))
def F_X2_copyFrom (o : OM) (t0 : Nat) (t1 : Nat) : Option (Unit × OM) := bd (wr o 1 t0 0 (rd o 1 t1 0)) (fun o_1 : OM => bd (wr o_1 1 t0 1 (rd o_1 1 t1 1)) (fun o_2 : OM => bd (wr o_2 1 t0 2 (rd o_2 1 t1 2)) (fun o_3 : OM => bd (wr o_3 1 t0 3 (rd o_3 1 t1 3)) (fun o_4 : OM => bd (wr o_4 1 t0 4 (rd o_4 1 t1 4)) (fun o_5 : OM => grd (inC ((4 : Int32)) 4 4) (bd (wrA o_5 2 t0 (va_cpy (o_5.1 2 t1) (o_5.1 2 t0) 0 0 ((4 : Int32)).toNatClampNeg)) (fun o_6 : OM => grd (inC ((7 : Int32)) 7 7) (bd (wrA o_6 3 t0 (va_cpy (o_6.1 3 t1) (o_6.1 3 t0) 0 0 ((7 : Int32)).toNatClampNeg)) (fun o_7 : OM => bd (fun (o_8 : OM) => some ((), o_8)) (fun k107 => LX2_copyFrom_78 k107 t0 t1 FU o_7 ((0 : Int32))))))))))))
abbrev rmX2_copyFrom : Room := { frames := 3, cells := 0, slots := 0, locals := 82 }
set_option maxHeartbeats 4000000 in
set_option maxRecDepth 100000 in
theorem lX2_copyFrom_78 {G : Gd} {p : Program} {l : Launch} {e : Env} {s : State} {m : MethodId} {args : Array Value} {below : List Frame} {meth : Method} {c : Code} {r : Unit} {o9 : OM} {t0 : Nat} {t1 : Nat} (C : Cx G RX2 cX2_copyFrom 3 none p s m args meth c) (ht0 : okb 1 t0 = true) (ht1 : okb 1 t1 = true) {k107 : OM → Option (Unit × OM)} (j107 : ∀ (o_8 : OM) H1 L1 ls, Hp G o_8 s H1 L1 → lv_has ls 3 [] → k107 o_8 = some (r, o9) → W p l e rmX2_copyFrom s m args below meth c H1 L1 0 0 (Qm G none o9 rmX2_copyFrom below args s) (F0 m 107 ls [])) : ∀ (n : Nat) (o_10 : OM) (v2_9 : Int32) H1 L1 ls, Hp G o_10 s H1 L1 → lv_has ls 3 [(0, .ref (rA G 1 t0)), (1, .ref (rA G 1 t1)), (2, .int v2_9)] → LX2_copyFrom_78 k107 t0 t1 n o_10 v2_9 = some (r, o9) → W p l e rmX2_copyFrom s m args below meth c H1 L1 0 0 (Qm G none o9 rmX2_copyFrom below args s) (F0 m 78 ls []) := by
  intro n
  induction n with
  | zero =>
    intro o_10 v2_9 H1 L1 ls P hl hf
    exact nomatch hf
  | succ n ih =>
    intro o_10 v2_9 H1 L1 ls P hl hf
    rw [LX2_copyFrom_78.eq_2] at hf
    refine r_iload_n C hl 2 rfl rfl dX2_copyFrom_78 ?_
    refine r_aload_n C hl 0 rfl rfl dX2_copyFrom_79 ?_
    refine gf_1_2 C P ht0 wd_137 dX2_copyFrom_80 ?_
    refine r_icmp_ge C dX2_copyFrom_83 hf (fun hf => ?_) (fun hf => ?_)
    · exact j107 o_10 _ _ _ P (lv_sub hl [] rfl) hf
    · refine r_aload_n C hl 0 rfl rfl dX2_copyFrom_86 ?_
      refine gf_1_7 C P ht0 wd_147 dX2_copyFrom_87 ?_
      refine r_iload_n C hl 2 rfl rfl dX2_copyFrom_90 ?_
      refine r_aldT C P ht0 dX2_copyFrom_91 hf (fun t_11 ht_11 hf => ?_)
      refine r_aload_n C hl 1 rfl rfl dX2_copyFrom_92 ?_
      refine gf_1_7 C P ht1 wd_147 dX2_copyFrom_93 ?_
      refine r_iload_n C hl 2 rfl rfl dX2_copyFrom_96 ?_
      refine r_aldT C P ht1 dX2_copyFrom_97 hf (fun t_12 ht_12 hf => ?_)
      refine r_cVv C P cf_X2_58 (rm := rmX3_copyFrom) 5 t_11 (fun _ _ => ⟨_, rfl⟩) rfl rfl ht_11 [.ref (rA G 5 t_12)] [] hf (fun _ _ h => ctX3_copyFrom l G o_10 t_11 t_12 ht_11 ht_12 h) ⟨rfl, rfl⟩ ⟨Nat.le_of_ble_eq_true rfl, Nat.le_of_ble_eq_true rfl⟩ ⟨Nat.le_of_ble_eq_true rfl, Nat.le_of_ble_eq_true rfl⟩ rfl rfl hl.1 (Nat.le_of_ble_eq_true rfl) dX2_copyFrom_98 (fun _ o_14 H1 L1 P hf => ?_)
      refine r_iinc C (fun v2_15 => [(2, .int v2_15), (0, .ref (rA G 1 t0)), (1, .ref (rA G 1 t1))]) (w := 1) 2 hl rfl (by decide) (by decide) (fun _ => rfl) dX2_copyFrom_101 hf (fun v2_15 ls hl hf => ?_)
      refine r_goto C dX2_copyFrom_104 ?_
      exact ih o_14 v2_15 _ _ _ P (lv_sub hl [1, 2, 0] rfl) hf
set_option maxHeartbeats 4000000 in
set_option maxRecDepth 100000 in
theorem wX2_copyFrom {G : Gd} {p : Program} {l : Launch} {e : Env} {s : State} {m : MethodId} {args : Array Value} {below : List Frame} {meth : Method} {c : Code} {o : OM} {H : Heap} {L0 : List Loc} {ls : Array Slot} {r : Unit} {o9 : OM} {t0 : Nat} {t1 : Nat} (C : Cx G RX2 cX2_copyFrom 3 none p s m args meth c) (ht0 : okb 1 t0 = true) (ht1 : okb 1 t1 = true) (P : Hp G o s H L0) (hl : lv_has ls 3 [(0, .ref (rA G 1 t0)), (1, .ref (rA G 1 t1))]) (hf : F_X2_copyFrom o t0 t1 = some (r, o9)) : W p l e rmX2_copyFrom s m args below meth c H L0 0 0 (Qm G none o9 rmX2_copyFrom below args s) (F0 m 0 ls []) := by
  unfold F_X2_copyFrom at hf
  refine r_aload_n C hl 0 rfl rfl dX2_copyFrom_0 ?_
  refine r_aload_n C hl 1 rfl rfl dX2_copyFrom_1 ?_
  refine gf_1_0 C P ht1 wd_133 dX2_copyFrom_2 ?_
  refine pf_1_0 C P ht0 wd_133 dX2_copyFrom_5 hf (fun o_1 H1 L1 P hf => ?_)
  refine r_aload_n C hl 0 rfl rfl dX2_copyFrom_8 ?_
  refine r_aload_n C hl 1 rfl rfl dX2_copyFrom_9 ?_
  refine gf_1_1 C P ht1 wd_135 dX2_copyFrom_10 ?_
  refine pf_1_1 C P ht0 wd_135 dX2_copyFrom_13 hf (fun o_2 H1 L1 P hf => ?_)
  refine r_aload_n C hl 0 rfl rfl dX2_copyFrom_16 ?_
  refine r_aload_n C hl 1 rfl rfl dX2_copyFrom_17 ?_
  refine gf_1_2 C P ht1 wd_137 dX2_copyFrom_18 ?_
  refine pf_1_2 C P ht0 wd_137 dX2_copyFrom_21 hf (fun o_3 H1 L1 P hf => ?_)
  refine r_aload_n C hl 0 rfl rfl dX2_copyFrom_24 ?_
  refine r_aload_n C hl 1 rfl rfl dX2_copyFrom_25 ?_
  refine gf_1_3 C P ht1 wd_139 dX2_copyFrom_26 ?_
  refine pf_1_3 C P ht0 wd_139 dX2_copyFrom_29 hf (fun o_4 H1 L1 P hf => ?_)
  refine r_aload_n C hl 0 rfl rfl dX2_copyFrom_32 ?_
  refine r_aload_n C hl 1 rfl rfl dX2_copyFrom_33 ?_
  refine gf_1_4 C P ht1 wd_141 dX2_copyFrom_34 ?_
  refine pf_1_4 C P ht0 wd_141 dX2_copyFrom_37 hf (fun o_5 H1 L1 P hf => ?_)
  refine r_aload_n C hl 1 rfl rfl dX2_copyFrom_40 ?_
  refine gf_1_5 C P ht1 wd_143 dX2_copyFrom_41 ?_
  refine r_iconst C (v := 0) (by decide) dX2_copyFrom_44 ?_
  refine r_aload_n C hl 0 rfl rfl dX2_copyFrom_45 ?_
  refine gf_1_5 C P ht0 wd_143 dX2_copyFrom_46 ?_
  refine r_iconst C (v := 0) (by decide) dX2_copyFrom_49 ?_
  refine r_aload_n C hl 0 rfl rfl dX2_copyFrom_50 ?_
  refine gf_1_5 C P ht0 wd_143 dX2_copyFrom_51 ?_
  refine r_alenI C P (k := 2) (i := t0) (N := 4) (v := 4) (fun _ _ => ⟨_, rfl⟩) (by decide) ht0 dX2_copyFrom_54 ?_
  refine r_copy C P (k := 2) (i := t1) (k1 := 2) (i1 := t0) (N := 4) (M := 4) (fun _ _ => rfl) (fun _ _ => rfl) ht1 ht0 wd_303 wd_305 wd_304 wd_21 hl.1 ⟨Nat.le_of_ble_eq_true rfl, Nat.le_of_ble_eq_true rfl⟩ dX2_copyFrom_55 hf (fun o_6 H1 L1 P hf => ?_)
  refine r_aload_n C hl 1 rfl rfl dX2_copyFrom_58 ?_
  refine gf_1_6 C P ht1 wd_145 dX2_copyFrom_59 ?_
  refine r_iconst C (v := 0) (by decide) dX2_copyFrom_62 ?_
  refine r_aload_n C hl 0 rfl rfl dX2_copyFrom_63 ?_
  refine gf_1_6 C P ht0 wd_145 dX2_copyFrom_64 ?_
  refine r_iconst C (v := 0) (by decide) dX2_copyFrom_67 ?_
  refine r_aload_n C hl 0 rfl rfl dX2_copyFrom_68 ?_
  refine gf_1_6 C P ht0 wd_145 dX2_copyFrom_69 ?_
  refine r_alenI C P (k := 3) (i := t0) (N := 7) (v := 7) (fun _ _ => ⟨_, rfl⟩) (by decide) ht0 dX2_copyFrom_72 ?_
  refine r_copy C P (k := 3) (i := t1) (k1 := 3) (i1 := t0) (N := 7) (M := 7) (fun _ _ => rfl) (fun _ _ => rfl) ht1 ht0 wd_303 wd_305 wd_304 wd_21 hl.1 ⟨Nat.le_of_ble_eq_true rfl, Nat.le_of_ble_eq_true rfl⟩ dX2_copyFrom_73 hf (fun o_7 H1 L1 P hf => ?_)
  refine r_iconst C (v := 0) (by decide) dX2_copyFrom_76 ?_
  refine r_istore_n C [(2, .int ((0 : Int32))), (0, .ref (rA G 1 t0)), (1, .ref (rA G 1 t1))] hl (by decide) rfl rfl dX2_copyFrom_77 (fun ls hl => ?_)
  refine r_jn (fun k107 : OM → Option (Unit × OM) => ∀ (o_8 : OM) H1 L1 ls, Hp G o_8 s H1 L1 → lv_has ls 3 [] → k107 o_8 = some (r, o9) → W p l e rmX2_copyFrom s m args below meth c H1 L1 0 0 (Qm G none o9 rmX2_copyFrom below args s) (F0 m 107 ls [])) hf ?_ (fun k107 j107 hf => ?_)
  · intro o_8 H1 L1 ls  P hl hf
    exact r_vret C P (rm := rmX2_copyFrom) ⟨rfl, rfl⟩ dX2_copyFrom_107 hf
  exact lX2_copyFrom_78 C ht0 ht1 j107 FU o_7 ((0 : Int32)) _ _ _ P (lv_sub hl [1, 2, 0] rfl) hf
theorem ctX2_copyFrom (l : Launch) (G : Gd) (o : OM) (t0 : Nat) (t1 : Nat) (ht0 : okb 1 t0 = true) (ht1 : okb 1 t1 = true) {r : Unit} {o9 : OM} (hf : F_X2_copyFrom o t0 t1 = some (r, o9)) : Ct l yX2_copyFrom cX2_copyFrom 3 none rmX2_copyFrom G [.ref (rA G 1 t0), .ref (rA G 1 t1)] o none o9 := ct_of (by decide +kernel) (Nat.le_of_ble_eq_true rfl) (fun p e s m below meth c ls C P hl => wX2_copyFrom C ht0 ht1 P hl hf)
theorem cf_X0_25 : CallF false RX0 25 yX2_copyFrom cX2_copyFrom 3 none 1 := ⟨wd_299, (by rw [if_neg (by decide)]; exact ⟨wd_300, wd_301⟩), wd_11, wd_302, by decide, by decide +kernel⟩
theorem dX0_push_0 : Dc cX0_push 0 (.aload_n 0) 1 1 := ⟨by decide +kernel, rfl⟩
theorem dX0_push_1 : Dc cX0_push 1 (.getfield 11) 3 4 := ⟨by decide +kernel, rfl⟩
theorem dX0_push_4 : Dc cX0_push 4 (.aload_n 0) 1 5 := ⟨by decide +kernel, rfl⟩
theorem dX0_push_5 : Dc cX0_push 5 (.getfield 18) 3 8 := ⟨by decide +kernel, rfl⟩
theorem dX0_push_8 : Dc cX0_push 8 (.aload_n 0) 1 9 := ⟨by decide +kernel, rfl⟩
theorem dX0_push_9 : Dc cX0_push 9 (.getfield 22) 3 12 := ⟨by decide +kernel, rfl⟩
theorem dX0_push_12 : Dc cX0_push 12 (.iadd) 1 13 := ⟨by decide +kernel, rfl⟩
theorem dX0_push_13 : Dc cX0_push 13 (.bipush 6) 2 15 := ⟨by decide +kernel, rfl⟩
theorem dX0_push_15 : Dc cX0_push 15 (.irem) 1 16 := ⟨by decide +kernel, rfl⟩
theorem dX0_push_16 : Dc cX0_push 16 (.aaload) 1 17 := ⟨by decide +kernel, rfl⟩
theorem dX0_push_17 : Dc cX0_push 17 (.aload_n 1) 1 18 := ⟨by decide +kernel, rfl⟩
theorem dX0_push_18 : Dc cX0_push 18 (.invokevirtual 25) 3 21 := ⟨by decide +kernel, rfl⟩
theorem dX0_push_21 : Dc cX0_push 21 (.aload_n 0) 1 22 := ⟨by decide +kernel, rfl⟩
theorem dX0_push_22 : Dc cX0_push 22 (.getfield 22) 3 25 := ⟨by decide +kernel, rfl⟩
theorem dX0_push_25 : Dc cX0_push 25 (.bipush 6) 2 27 := ⟨by decide +kernel, rfl⟩
theorem dX0_push_27 : Dj cX0_push 27 (.if_icmp .ge 16) 3 30 (16) 43 := ⟨by decide +kernel, rfl, by decide⟩
theorem dX0_push_30 : Dc cX0_push 30 (.aload_n 0) 1 31 := ⟨by decide +kernel, rfl⟩
theorem dX0_push_31 : Dc cX0_push 31 (.dup) 1 32 := ⟨by decide +kernel, rfl⟩
theorem dX0_push_32 : Dc cX0_push 32 (.getfield 22) 3 35 := ⟨by decide +kernel, rfl⟩
theorem dX0_push_35 : Dc cX0_push 35 (.iconst 1) 1 36 := ⟨by decide +kernel, rfl⟩
theorem dX0_push_36 : Dc cX0_push 36 (.iadd) 1 37 := ⟨by decide +kernel, rfl⟩
theorem dX0_push_37 : Dc cX0_push 37 (.putfield 22) 3 40 := ⟨by decide +kernel, rfl⟩
theorem dX0_push_40 : Dj cX0_push 40 (.goto 16) 3 43 (16) 56 := ⟨by decide +kernel, rfl, by decide⟩
theorem dX0_push_43 : Dc cX0_push 43 (.aload_n 0) 1 44 := ⟨by decide +kernel, rfl⟩
theorem dX0_push_44 : Dc cX0_push 44 (.aload_n 0) 1 45 := ⟨by decide +kernel, rfl⟩
theorem dX0_push_45 : Dc cX0_push 45 (.getfield 18) 3 48 := ⟨by decide +kernel, rfl⟩
theorem dX0_push_48 : Dc cX0_push 48 (.iconst 1) 1 49 := ⟨by decide +kernel, rfl⟩
theorem dX0_push_49 : Dc cX0_push 49 (.iadd) 1 50 := ⟨by decide +kernel, rfl⟩
theorem dX0_push_50 : Dc cX0_push 50 (.bipush 6) 2 52 := ⟨by decide +kernel, rfl⟩
theorem dX0_push_52 : Dc cX0_push 52 (.irem) 1 53 := ⟨by decide +kernel, rfl⟩
theorem dX0_push_53 : Dc cX0_push 53 (.putfield 18) 3 56 := ⟨by decide +kernel, rfl⟩
theorem dX0_push_56 : Dc cX0_push 56 (.return_) 1 57 := ⟨by decide +kernel, rfl⟩
def F_X0_push (o : OM) (t1 : Nat) : Option (Unit × OM) := grd (decide (¬ ((6 : Int32)) = 0)) (grd (inB (((rd o 14 0 1) + (rd o 14 0 0)) - ((rd o 14 0 1) + (rd o 14 0 0)) / ((6 : Int32)) * ((6 : Int32))) 6) (bd ((((rd o 14 0 1) + (rd o 14 0 0)) - ((rd o 14 0 1) + (rd o 14 0 0)) / ((6 : Int32)) * ((6 : Int32))).toNatClampNeg + 2) (fun t_1 : Nat => bn (F_X2_copyFrom o t_1 t1) (fun _ o_3 => bd (fun (o_4 : OM) => some ((), o_4)) (fun k56 => if ((6 : Int32)) ≤ (rd o_3 14 0 0) then (grd (decide (¬ ((6 : Int32)) = 0)) (bd (wr o_3 14 0 1 (((rd o_3 14 0 1) + ((1 : Int32))) - ((rd o_3 14 0 1) + ((1 : Int32))) / ((6 : Int32)) * ((6 : Int32)))) (fun o_5 : OM => k56 o_5))) else (bd (wr o_3 14 0 0 ((rd o_3 14 0 0) + ((1 : Int32)))) (fun o_6 : OM => k56 o_6)))))))
abbrev rmX0_push : Room := { frames := 4, cells := 0, slots := 0, locals := 104 }
set_option maxHeartbeats 4000000 in
set_option maxRecDepth 100000 in
theorem wX0_push {G : Gd} {p : Program} {l : Launch} {e : Env} {s : State} {m : MethodId} {args : Array Value} {below : List Frame} {meth : Method} {c : Code} {o : OM} {H : Heap} {L0 : List Loc} {ls : Array Slot} {r : Unit} {o9 : OM} {t1 : Nat} (C : Cx G RX0 cX0_push 2 none p s m args meth c) (ht1 : okb 1 t1 = true) (P : Hp G o s H L0) (hl : lv_has ls 2 [(0, .ref (rA G 14 0)), (1, .ref (rA G 1 t1))]) (hf : F_X0_push o t1 = some (r, o9)) : W p l e rmX0_push s m args below meth c H L0 0 0 (Qm G none o9 rmX0_push below args s) (F0 m 0 ls []) := by
  unfold F_X0_push at hf
  refine r_aload_n C hl 0 rfl rfl dX0_push_0 ?_
  refine gf_14_2 C P rfl wd_178 dX0_push_1 ?_
  refine r_aload_n C hl 0 rfl rfl dX0_push_4 ?_
  refine gf_14_1 C P rfl wd_177 dX0_push_5 ?_
  refine r_aload_n C hl 0 rfl rfl dX0_push_8 ?_
  refine gf_14_0 C P rfl wd_175 dX0_push_9 ?_
  refine r_iadd2 C dX0_push_12 ?_
  refine r_bipush C (v := 6) (by decide) dX0_push_13 ?_
  refine r_irem C dX0_push_15 hf (fun hf => ?_)
  refine r_aldS C P dX0_push_16 hf (fun t_1 ht_1 hf => ?_)
  refine r_aload_n C hl 1 rfl rfl dX0_push_17 ?_
  refine r_cVv C P cf_X0_25 (rm := rmX2_copyFrom) 1 t_1 (fun _ _ => ⟨_, rfl⟩) rfl rfl ht_1 [.ref (rA G 1 t1)] [] hf (fun _ _ h => ctX2_copyFrom l G o t_1 t1 ht_1 ht1 h) ⟨rfl, rfl⟩ ⟨Nat.le_of_ble_eq_true rfl, Nat.le_of_ble_eq_true rfl⟩ ⟨Nat.le_of_ble_eq_true rfl, Nat.le_of_ble_eq_true rfl⟩ rfl rfl hl.1 (Nat.le_of_ble_eq_true rfl) dX0_push_18 (fun _ o_3 H1 L1 P hf => ?_)
  refine r_aload_n C hl 0 rfl rfl dX0_push_21 ?_
  refine gf_14_0 C P rfl wd_175 dX0_push_22 ?_
  refine r_bipush C (v := 6) (by decide) dX0_push_25 ?_
  refine r_jn (fun k56 : OM → Option (Unit × OM) => ∀ (o_4 : OM) H1 L1 ls, Hp G o_4 s H1 L1 → lv_has ls 2 [] → k56 o_4 = some (r, o9) → W p l e rmX0_push s m args below meth c H1 L1 0 0 (Qm G none o9 rmX0_push below args s) (F0 m 56 ls [])) hf ?_ (fun k56 j56 hf => ?_)
  · intro o_4 H1 L1 ls  P hl hf
    exact r_vret C P (rm := rmX0_push) ⟨rfl, rfl⟩ dX0_push_56 hf
  refine r_icmp_ge C dX0_push_27 hf (fun hf => ?_) (fun hf => ?_)
  · refine r_aload_n C hl 0 rfl rfl dX0_push_43 ?_
    refine r_aload_n C hl 0 rfl rfl dX0_push_44 ?_
    refine gf_14_1 C P rfl wd_177 dX0_push_45 ?_
    refine r_iconst C (v := 1) (by decide) dX0_push_48 ?_
    refine r_iadd2 C dX0_push_49 ?_
    refine r_bipush C (v := 6) (by decide) dX0_push_50 ?_
    refine r_irem C dX0_push_52 hf (fun hf => ?_)
    refine pf_14_1 C P rfl wd_177 dX0_push_53 hf (fun o_5 H1 L1 P hf => ?_)
    exact j56 o_5 _ _ _ P (lv_sub hl [] rfl) hf
  · refine r_aload_n C hl 0 rfl rfl dX0_push_30 ?_
    refine r_dup C rfl dX0_push_31 ?_
    refine gf_14_0 C P rfl wd_175 dX0_push_32 ?_
    refine r_iconst C (v := 1) (by decide) dX0_push_35 ?_
    refine r_iadd2 C dX0_push_36 ?_
    refine pf_14_0 C P rfl wd_175 dX0_push_37 hf (fun o_6 H1 L1 P hf => ?_)
    refine r_goto C dX0_push_40 ?_
    exact j56 o_6 _ _ _ P (lv_sub hl [] rfl) hf
theorem ctX0_push (l : Launch) (G : Gd) (o : OM) (t1 : Nat) (ht1 : okb 1 t1 = true) {r : Unit} {o9 : OM} (hf : F_X0_push o t1 = some (r, o9)) : Ct l yX0_push cX0_push 2 none rmX0_push G [.ref (rA G 14 0), .ref (rA G 1 t1)] o none o9 := ct_of (by decide +kernel) (Nat.le_of_ble_eq_true rfl) (fun p e s m below meth c ls C P hl => wX0_push C ht1 P hl hf)
theorem dX0_popInto_0 : Dc cX0_popInto 0 (.aload_n 0) 1 1 := ⟨by decide +kernel, rfl⟩
theorem dX0_popInto_1 : Dc cX0_popInto 1 (.getfield 22) 3 4 := ⟨by decide +kernel, rfl⟩
theorem dX0_popInto_4 : Dj cX0_popInto 4 (.ifCond .le 34) 3 7 (34) 38 := ⟨by decide +kernel, rfl, by decide⟩
theorem dX0_popInto_7 : Dc cX0_popInto 7 (.aload_n 0) 1 8 := ⟨by decide +kernel, rfl⟩
theorem dX0_popInto_8 : Dc cX0_popInto 8 (.dup) 1 9 := ⟨by decide +kernel, rfl⟩
theorem dX0_popInto_9 : Dc cX0_popInto 9 (.getfield 22) 3 12 := ⟨by decide +kernel, rfl⟩
theorem dX0_popInto_12 : Dc cX0_popInto 12 (.iconst 1) 1 13 := ⟨by decide +kernel, rfl⟩
theorem dX0_popInto_13 : Dc cX0_popInto 13 (.isub) 1 14 := ⟨by decide +kernel, rfl⟩
theorem dX0_popInto_14 : Dc cX0_popInto 14 (.putfield 22) 3 17 := ⟨by decide +kernel, rfl⟩
theorem dX0_popInto_17 : Dc cX0_popInto 17 (.aload_n 1) 1 18 := ⟨by decide +kernel, rfl⟩
theorem dX0_popInto_18 : Dc cX0_popInto 18 (.aload_n 0) 1 19 := ⟨by decide +kernel, rfl⟩
theorem dX0_popInto_19 : Dc cX0_popInto 19 (.getfield 11) 3 22 := ⟨by decide +kernel, rfl⟩
theorem dX0_popInto_22 : Dc cX0_popInto 22 (.aload_n 0) 1 23 := ⟨by decide +kernel, rfl⟩
theorem dX0_popInto_23 : Dc cX0_popInto 23 (.getfield 18) 3 26 := ⟨by decide +kernel, rfl⟩
theorem dX0_popInto_26 : Dc cX0_popInto 26 (.aload_n 0) 1 27 := ⟨by decide +kernel, rfl⟩
theorem dX0_popInto_27 : Dc cX0_popInto 27 (.getfield 22) 3 30 := ⟨by decide +kernel, rfl⟩
theorem dX0_popInto_30 : Dc cX0_popInto 30 (.iadd) 1 31 := ⟨by decide +kernel, rfl⟩
theorem dX0_popInto_31 : Dc cX0_popInto 31 (.bipush 6) 2 33 := ⟨by decide +kernel, rfl⟩
theorem dX0_popInto_33 : Dc cX0_popInto 33 (.irem) 1 34 := ⟨by decide +kernel, rfl⟩
theorem dX0_popInto_34 : Dc cX0_popInto 34 (.aaload) 1 35 := ⟨by decide +kernel, rfl⟩
theorem dX0_popInto_35 : Dc cX0_popInto 35 (.invokevirtual 25) 3 38 := ⟨by decide +kernel, rfl⟩
theorem dX0_popInto_38 : Dc cX0_popInto 38 (.return_) 1 39 := ⟨by decide +kernel, rfl⟩
def F_X0_popInto (o : OM) (t1 : Nat) : Option (Unit × OM) := bd (fun (o_1 : OM) => some ((), o_1)) (fun k38 => if (rd o 14 0 0) ≤ 0 then (k38 o) else (bd (wr o 14 0 0 ((rd o 14 0 0) - ((1 : Int32)))) (fun o_2 : OM => grd (decide (¬ ((6 : Int32)) = 0)) (grd (inB (((rd o_2 14 0 1) + (rd o_2 14 0 0)) - ((rd o_2 14 0 1) + (rd o_2 14 0 0)) / ((6 : Int32)) * ((6 : Int32))) 6) (bd ((((rd o_2 14 0 1) + (rd o_2 14 0 0)) - ((rd o_2 14 0 1) + (rd o_2 14 0 0)) / ((6 : Int32)) * ((6 : Int32))).toNatClampNeg + 2) (fun t_3 : Nat => bn (F_X2_copyFrom o_2 t1 t_3) (fun _ o_5 => k38 o_5)))))))
abbrev rmX0_popInto : Room := { frames := 4, cells := 0, slots := 0, locals := 104 }
set_option maxHeartbeats 4000000 in
set_option maxRecDepth 100000 in
theorem wX0_popInto {G : Gd} {p : Program} {l : Launch} {e : Env} {s : State} {m : MethodId} {args : Array Value} {below : List Frame} {meth : Method} {c : Code} {o : OM} {H : Heap} {L0 : List Loc} {ls : Array Slot} {r : Unit} {o9 : OM} {t1 : Nat} (C : Cx G RX0 cX0_popInto 2 none p s m args meth c) (ht1 : okb 1 t1 = true) (P : Hp G o s H L0) (hl : lv_has ls 2 [(0, .ref (rA G 14 0)), (1, .ref (rA G 1 t1))]) (hf : F_X0_popInto o t1 = some (r, o9)) : W p l e rmX0_popInto s m args below meth c H L0 0 0 (Qm G none o9 rmX0_popInto below args s) (F0 m 0 ls []) := by
  unfold F_X0_popInto at hf
  refine r_aload_n C hl 0 rfl rfl dX0_popInto_0 ?_
  refine gf_14_0 C P rfl wd_175 dX0_popInto_1 ?_
  refine r_jn (fun k38 : OM → Option (Unit × OM) => ∀ (o_1 : OM) H1 L1 ls, Hp G o_1 s H1 L1 → lv_has ls 2 [] → k38 o_1 = some (r, o9) → W p l e rmX0_popInto s m args below meth c H1 L1 0 0 (Qm G none o9 rmX0_popInto below args s) (F0 m 38 ls [])) hf ?_ (fun k38 j38 hf => ?_)
  · intro o_1 H1 L1 ls  P hl hf
    exact r_vret C P (rm := rmX0_popInto) ⟨rfl, rfl⟩ dX0_popInto_38 hf
  refine r_if_le C dX0_popInto_4 hf (fun hf => ?_) (fun hf => ?_)
  · exact j38 o _ _ _ P (lv_sub hl [] rfl) hf
  · refine r_aload_n C hl 0 rfl rfl dX0_popInto_7 ?_
    refine r_dup C rfl dX0_popInto_8 ?_
    refine gf_14_0 C P rfl wd_175 dX0_popInto_9 ?_
    refine r_iconst C (v := 1) (by decide) dX0_popInto_12 ?_
    refine r_isub C dX0_popInto_13 ?_
    refine pf_14_0 C P rfl wd_175 dX0_popInto_14 hf (fun o_2 H1 L1 P hf => ?_)
    refine r_aload_n C hl 1 rfl rfl dX0_popInto_17 ?_
    refine r_aload_n C hl 0 rfl rfl dX0_popInto_18 ?_
    refine gf_14_2 C P rfl wd_178 dX0_popInto_19 ?_
    refine r_aload_n C hl 0 rfl rfl dX0_popInto_22 ?_
    refine gf_14_1 C P rfl wd_177 dX0_popInto_23 ?_
    refine r_aload_n C hl 0 rfl rfl dX0_popInto_26 ?_
    refine gf_14_0 C P rfl wd_175 dX0_popInto_27 ?_
    refine r_iadd2 C dX0_popInto_30 ?_
    refine r_bipush C (v := 6) (by decide) dX0_popInto_31 ?_
    refine r_irem C dX0_popInto_33 hf (fun hf => ?_)
    refine r_aldS C P dX0_popInto_34 hf (fun t_3 ht_3 hf => ?_)
    refine r_cVv C P cf_X0_25 (rm := rmX2_copyFrom) 1 t1 (fun _ _ => ⟨_, rfl⟩) rfl rfl ht1 [.ref (rA G 1 t_3)] [] hf (fun _ _ h => ctX2_copyFrom l G o_2 t1 t_3 ht1 ht_3 h) ⟨rfl, rfl⟩ ⟨Nat.le_of_ble_eq_true rfl, Nat.le_of_ble_eq_true rfl⟩ ⟨Nat.le_of_ble_eq_true rfl, Nat.le_of_ble_eq_true rfl⟩ rfl rfl hl.1 (Nat.le_of_ble_eq_true rfl) dX0_popInto_35 (fun _ o_5 H1 L1 P hf => ?_)
    exact j38 o_5 _ _ _ P (lv_sub hl [] rfl) hf
theorem ctX0_popInto (l : Launch) (G : Gd) (o : OM) (t1 : Nat) (ht1 : okb 1 t1 = true) {r : Unit} {o9 : OM} (hf : F_X0_popInto o t1 = some (r, o9)) : Ct l yX0_popInto cX0_popInto 2 none rmX0_popInto G [.ref (rA G 14 0), .ref (rA G 1 t1)] o none o9 := ct_of (by decide +kernel) (Nat.le_of_ble_eq_true rfl) (fun p e s m below meth c ls C P hl => wX0_popInto C ht1 P hl hf)
theorem dX1_indexOf_0 : Dc cX1_indexOf 0 (.iconst 0) 1 1 := ⟨by decide +kernel, rfl⟩
theorem dX1_indexOf_1 : Dc cX1_indexOf 1 (.istore_n 2) 1 2 := ⟨by decide +kernel, rfl⟩
theorem dX1_indexOf_2 : Dc cX1_indexOf 2 (.iload_n 2) 1 3 := ⟨by decide +kernel, rfl⟩
theorem dX1_indexOf_3 : Dc cX1_indexOf 3 (.aload_n 0) 1 4 := ⟨by decide +kernel, rfl⟩
theorem dX1_indexOf_4 : Dc cX1_indexOf 4 (.getfield 33) 3 7 := ⟨by decide +kernel, rfl⟩
theorem dX1_indexOf_7 : Dj cX1_indexOf 7 (.if_icmp .ge 21) 3 10 (21) 28 := ⟨by decide +kernel, rfl, by decide⟩
theorem dX1_indexOf_10 : Dc cX1_indexOf 10 (.aload_n 0) 1 11 := ⟨by decide +kernel, rfl⟩
theorem dX1_indexOf_11 : Dc cX1_indexOf 11 (.getfield 15) 3 14 := ⟨by decide +kernel, rfl⟩
theorem dX1_indexOf_14 : Dc cX1_indexOf 14 (.iload_n 2) 1 15 := ⟨by decide +kernel, rfl⟩
theorem dX1_indexOf_15 : Dc cX1_indexOf 15 (.iaload) 1 16 := ⟨by decide +kernel, rfl⟩
theorem dX1_indexOf_16 : Dc cX1_indexOf 16 (.iload_n 1) 1 17 := ⟨by decide +kernel, rfl⟩
theorem dX1_indexOf_17 : Dj cX1_indexOf 17 (.if_icmp .ne 5) 3 20 (5) 22 := ⟨by decide +kernel, rfl, by decide⟩
theorem dX1_indexOf_20 : Dc cX1_indexOf 20 (.iload_n 2) 1 21 := ⟨by decide +kernel, rfl⟩
theorem dX1_indexOf_21 : Dc cX1_indexOf 21 (.ireturn) 1 22 := ⟨by decide +kernel, rfl⟩
theorem dX1_indexOf_22 : Dc cX1_indexOf 22 (.iinc 2 1) 3 25 := ⟨by decide +kernel, rfl⟩
theorem dX1_indexOf_25 : Dj cX1_indexOf 25 (.goto (-23)) 3 28 (-23) 2 := ⟨by decide +kernel, rfl, by decide⟩
theorem dX1_indexOf_28 : Dc cX1_indexOf 28 (.iconst (-1)) 1 29 := ⟨by decide +kernel, rfl⟩
theorem dX1_indexOf_29 : Dc cX1_indexOf 29 (.ireturn) 1 30 := ⟨by decide +kernel, rfl⟩
def LX1_indexOf_2 (k20 : Int32 → Option Int32) (k28 : Unit → Option Int32) (o : OM) (t0 : Nat) (v1 : Int32) : Nat → Int32 → Option Int32
  | 0 => fun _ => none
  | n + 1 => fun v2_2 => if (rd o 6 t0 0) ≤ v2_2 then (k28 ()) else (grd (inB v2_2 10) (if (rd o 8 t0 v2_2.toNatClampNeg) = v1 then (k20 v2_2) else (bd (v2_2 + (1 : Int32)) (fun v2_3 : Int32 => (LX1_indexOf_2 k20 k28 o t0 v1 n) v2_3))))
def F_X1_indexOf (o : OM) (t0 : Nat) (v1 : Int32) : Option Int32 := bd (fun (v2_1 : Int32) => some v2_1) (fun k20 => bd (fun (_ : Unit) => some ((-1 : Int32))) (fun k28 => LX1_indexOf_2 k20 k28 o t0 v1 FU ((0 : Int32))))
abbrev rmX1_indexOf : Room := { frames := 0, cells := 0, slots := 0, locals := 0 }
set_option maxHeartbeats 4000000 in
set_option maxRecDepth 100000 in
theorem lX1_indexOf_2 {G : Gd} {p : Program} {l : Launch} {e : Env} {s : State} {m : MethodId} {args : Array Value} {below : List Frame} {meth : Method} {c : Code} {r : Int32} {o : OM} {t0 : Nat} {v1 : Int32} (C : Cx G RX1 cX1_indexOf 3 (some .int) p s m args meth c) (ht0 : okb 6 t0 = true) {k20 : Int32 → Option Int32} {k28 : Unit → Option Int32} (j20 : ∀ (v2_1 : Int32) H1 L1 ls, Hp G o s H1 L1 → lv_has ls 3 [(2, .int v2_1)] → k20 v2_1 = some r → W p l e rmX1_indexOf s m args below meth c H1 L1 0 0 (Qm G (some (.int r)) o rmX1_indexOf below args s) (F0 m 20 ls [])) (j28 : ∀ H1 L1 ls, Hp G o s H1 L1 → lv_has ls 3 [] → k28 () = some r → W p l e rmX1_indexOf s m args below meth c H1 L1 0 0 (Qm G (some (.int r)) o rmX1_indexOf below args s) (F0 m 28 ls [])) : ∀ (n : Nat) (v2_2 : Int32) H1 L1 ls, Hp G o s H1 L1 → lv_has ls 3 [(0, .ref (rA G 6 t0)), (1, .int v1), (2, .int v2_2)] → LX1_indexOf_2 k20 k28 o t0 v1 n v2_2 = some r → W p l e rmX1_indexOf s m args below meth c H1 L1 0 0 (Qm G (some (.int r)) o rmX1_indexOf below args s) (F0 m 2 ls []) := by
  intro n
  induction n with
  | zero =>
    intro v2_2 H1 L1 ls P hl hf
    exact nomatch hf
  | succ n ih =>
    intro v2_2 H1 L1 ls P hl hf
    rw [LX1_indexOf_2.eq_2] at hf
    refine r_iload_n C hl 2 rfl rfl dX1_indexOf_2 ?_
    refine r_aload_n C hl 0 rfl rfl dX1_indexOf_3 ?_
    refine gf_6_0 C P ht0 wd_62 dX1_indexOf_4 ?_
    refine r_icmp_ge C dX1_indexOf_7 hf (fun hf => ?_) (fun hf => ?_)
    · exact j28  _ _ _ P (lv_sub hl [] rfl) hf
    · refine r_aload_n C hl 0 rfl rfl dX1_indexOf_10 ?_
      refine gf_6_2 C P ht0 wd_68 dX1_indexOf_11 ?_
      refine r_iload_n C hl 2 rfl rfl dX1_indexOf_14 ?_
      refine r_iald C P (k := 8) (i := t0) (n := 10) (fun _ _ => rfl) ht0 dX1_indexOf_15 hf (fun hf => ?_)
      refine r_iload_n C hl 1 rfl rfl dX1_indexOf_16 ?_
      refine r_icmp_ne C dX1_indexOf_17 hf (fun hf => ?_) (fun hf => ?_)
      · refine r_iinc C (fun v2_3 => [(2, .int v2_3), (0, .ref (rA G 6 t0)), (1, .int v1)]) (w := 1) 2 hl rfl (by decide) (by decide) (fun _ => rfl) dX1_indexOf_22 hf (fun v2_3 ls hl hf => ?_)
        refine r_goto C dX1_indexOf_25 ?_
        exact ih v2_3 _ _ _ P (lv_sub hl [1, 2, 0] rfl) hf
      · exact j20 v2_2 _ _ _ P (lv_sub hl [2] rfl) hf
set_option maxHeartbeats 4000000 in
set_option maxRecDepth 100000 in
theorem wX1_indexOf {G : Gd} {p : Program} {l : Launch} {e : Env} {s : State} {m : MethodId} {args : Array Value} {below : List Frame} {meth : Method} {c : Code} {o : OM} {H : Heap} {L0 : List Loc} {ls : Array Slot} {r : Int32} {t0 : Nat} {v1 : Int32} (C : Cx G RX1 cX1_indexOf 3 (some .int) p s m args meth c) (ht0 : okb 6 t0 = true) (P : Hp G o s H L0) (hl : lv_has ls 3 [(0, .ref (rA G 6 t0)), (1, .int v1)]) (hf : F_X1_indexOf o t0 v1 = some r) : W p l e rmX1_indexOf s m args below meth c H L0 0 0 (Qm G (some (.int r)) o rmX1_indexOf below args s) (F0 m 0 ls []) := by
  unfold F_X1_indexOf at hf
  refine r_iconst C (v := 0) (by decide) dX1_indexOf_0 ?_
  refine r_istore_n C [(2, .int ((0 : Int32))), (0, .ref (rA G 6 t0)), (1, .int v1)] hl (by decide) rfl rfl dX1_indexOf_1 (fun ls hl => ?_)
  refine r_jn (fun k20 : Int32 → Option Int32 => ∀ (v2_1 : Int32) H1 L1 ls, Hp G o s H1 L1 → lv_has ls 3 [(2, .int v2_1)] → k20 v2_1 = some r → W p l e rmX1_indexOf s m args below meth c H1 L1 0 0 (Qm G (some (.int r)) o rmX1_indexOf below args s) (F0 m 20 ls [])) hf ?_ (fun k20 j20 hf => ?_)
  · intro v2_1 H1 L1 ls  P hl hf
    refine r_iload_n C hl 0 rfl rfl dX1_indexOf_20 ?_
    exact q_iret C P (rm := rmX1_indexOf) ⟨rfl, rfl⟩ dX1_indexOf_21 hf
  refine r_jn (fun k28 : Unit → Option Int32 => ∀ H1 L1 ls, Hp G o s H1 L1 → lv_has ls 3 [] → k28 () = some r → W p l e rmX1_indexOf s m args below meth c H1 L1 0 0 (Qm G (some (.int r)) o rmX1_indexOf below args s) (F0 m 28 ls [])) hf ?_ (fun k28 j28 hf => ?_)
  · intro  H1 L1 ls  P hl hf
    refine r_iconst C (v := -1) (by decide) dX1_indexOf_28 ?_
    exact q_iret C P (rm := rmX1_indexOf) ⟨rfl, rfl⟩ dX1_indexOf_29 hf
  exact lX1_indexOf_2 C ht0 j20 j28 FU ((0 : Int32)) _ _ _ P (lv_sub hl [1, 2, 0] rfl) hf
theorem ctX1_indexOf (l : Launch) (G : Gd) (o : OM) (t0 : Nat) (v1 : Int32) (ht0 : okb 6 t0 = true) {r : Int32} (hf : F_X1_indexOf o t0 v1 = some r) : Ct l yX1_indexOf cX1_indexOf 3 (some .int) rmX1_indexOf G [.ref (rA G 6 t0), .int v1] o (some (.int r)) o := ct_of (by decide +kernel) (Nat.le_of_ble_eq_true rfl) (fun p e s m below meth c ls C P hl => wX1_indexOf C ht0 P hl hf)
theorem dX1_crosses_0 : Dc cX1_crosses 0 (.iconst 0) 1 1 := ⟨by decide +kernel, rfl⟩
theorem dX1_crosses_1 : Dc cX1_crosses 1 (.istore_n 3) 1 2 := ⟨by decide +kernel, rfl⟩
theorem dX1_crosses_2 : Dc cX1_crosses 2 (.iload_n 3) 1 3 := ⟨by decide +kernel, rfl⟩
theorem dX1_crosses_3 : Dc cX1_crosses 3 (.aload_n 0) 1 4 := ⟨by decide +kernel, rfl⟩
theorem dX1_crosses_4 : Dc cX1_crosses 4 (.getfield 33) 3 7 := ⟨by decide +kernel, rfl⟩
theorem dX1_crosses_7 : Dj cX1_crosses 7 (.if_icmp .ge 64) 3 10 (64) 71 := ⟨by decide +kernel, rfl, by decide⟩
theorem dX1_crosses_10 : Dc cX1_crosses 10 (.aload_n 0) 1 11 := ⟨by decide +kernel, rfl⟩
theorem dX1_crosses_11 : Dc cX1_crosses 11 (.getfield 15) 3 14 := ⟨by decide +kernel, rfl⟩
theorem dX1_crosses_14 : Dc cX1_crosses 14 (.iload_n 3) 1 15 := ⟨by decide +kernel, rfl⟩
theorem dX1_crosses_15 : Dc cX1_crosses 15 (.iaload) 1 16 := ⟨by decide +kernel, rfl⟩
theorem dX1_crosses_16 : Dc cX1_crosses 16 (.iload_n 2) 1 17 := ⟨by decide +kernel, rfl⟩
theorem dX1_crosses_17 : Dj cX1_crosses 17 (.if_icmp .eq 48) 3 20 (48) 65 := ⟨by decide +kernel, rfl, by decide⟩
theorem dX1_crosses_20 : Dc cX1_crosses 20 (.aload_n 0) 1 21 := ⟨by decide +kernel, rfl⟩
theorem dX1_crosses_21 : Dc cX1_crosses 21 (.getfield 9) 3 24 := ⟨by decide +kernel, rfl⟩
theorem dX1_crosses_24 : Dc cX1_crosses 24 (.iload_n 3) 1 25 := ⟨by decide +kernel, rfl⟩
theorem dX1_crosses_25 : Dc cX1_crosses 25 (.iaload) 1 26 := ⟨by decide +kernel, rfl⟩
theorem dX1_crosses_26 : Dc cX1_crosses 26 (.iload_n 1) 1 27 := ⟨by decide +kernel, rfl⟩
theorem dX1_crosses_27 : Dj cX1_crosses 27 (.if_icmp .eq 36) 3 30 (36) 63 := ⟨by decide +kernel, rfl, by decide⟩
theorem dX1_crosses_30 : Dc cX1_crosses 30 (.aload_n 0) 1 31 := ⟨by decide +kernel, rfl⟩
theorem dX1_crosses_31 : Dc cX1_crosses 31 (.getfield 9) 3 34 := ⟨by decide +kernel, rfl⟩
theorem dX1_crosses_34 : Dc cX1_crosses 34 (.iload_n 3) 1 35 := ⟨by decide +kernel, rfl⟩
theorem dX1_crosses_35 : Dc cX1_crosses 35 (.iaload) 1 36 := ⟨by decide +kernel, rfl⟩
theorem dX1_crosses_36 : Dc cX1_crosses 36 (.iload_n 1) 1 37 := ⟨by decide +kernel, rfl⟩
theorem dX1_crosses_37 : Dj cX1_crosses 37 (.if_icmp .ge 7) 3 40 (7) 44 := ⟨by decide +kernel, rfl, by decide⟩
theorem dX1_crosses_40 : Dc cX1_crosses 40 (.iconst 1) 1 41 := ⟨by decide +kernel, rfl⟩
theorem dX1_crosses_41 : Dj cX1_crosses 41 (.goto 4) 3 44 (4) 45 := ⟨by decide +kernel, rfl, by decide⟩
theorem dX1_crosses_44 : Dc cX1_crosses 44 (.iconst 0) 1 45 := ⟨by decide +kernel, rfl⟩
theorem dX1_crosses_45 : Dc cX1_crosses 45 (.aload_n 0) 1 46 := ⟨by decide +kernel, rfl⟩
theorem dX1_crosses_46 : Dc cX1_crosses 46 (.getfield 15) 3 49 := ⟨by decide +kernel, rfl⟩
theorem dX1_crosses_49 : Dc cX1_crosses 49 (.iload_n 3) 1 50 := ⟨by decide +kernel, rfl⟩
theorem dX1_crosses_50 : Dc cX1_crosses 50 (.iaload) 1 51 := ⟨by decide +kernel, rfl⟩
theorem dX1_crosses_51 : Dc cX1_crosses 51 (.iload_n 2) 1 52 := ⟨by decide +kernel, rfl⟩
theorem dX1_crosses_52 : Dj cX1_crosses 52 (.if_icmp .ge 7) 3 55 (7) 59 := ⟨by decide +kernel, rfl, by decide⟩
theorem dX1_crosses_55 : Dc cX1_crosses 55 (.iconst 1) 1 56 := ⟨by decide +kernel, rfl⟩
theorem dX1_crosses_56 : Dj cX1_crosses 56 (.goto 4) 3 59 (4) 60 := ⟨by decide +kernel, rfl, by decide⟩
theorem dX1_crosses_59 : Dc cX1_crosses 59 (.iconst 0) 1 60 := ⟨by decide +kernel, rfl⟩
theorem dX1_crosses_60 : Dj cX1_crosses 60 (.if_icmp .eq 5) 3 63 (5) 65 := ⟨by decide +kernel, rfl, by decide⟩
theorem dX1_crosses_63 : Dc cX1_crosses 63 (.iconst 1) 1 64 := ⟨by decide +kernel, rfl⟩
theorem dX1_crosses_64 : Dc cX1_crosses 64 (.ireturn) 1 65 := ⟨by decide +kernel, rfl⟩
theorem dX1_crosses_65 : Dc cX1_crosses 65 (.iinc 3 1) 3 68 := ⟨by decide +kernel, rfl⟩
theorem dX1_crosses_68 : Dj cX1_crosses 68 (.goto (-66)) 3 71 (-66) 2 := ⟨by decide +kernel, rfl, by decide⟩
theorem dX1_crosses_71 : Dc cX1_crosses 71 (.iconst 0) 1 72 := ⟨by decide +kernel, rfl⟩
theorem dX1_crosses_72 : Dc cX1_crosses 72 (.ireturn) 1 73 := ⟨by decide +kernel, rfl⟩
def LX1_crosses_2 (k63 : Unit → Option Int32) (k71 : Unit → Option Int32) (o : OM) (t0 : Nat) (v2 : Int32) (v1 : Int32) : Nat → Int32 → Option Int32
  | 0 => fun _ => none
  | n + 1 => fun v3_1 => if (rd o 6 t0 0) ≤ v3_1 then (k71 ()) else (grd (inB v3_1 10) (bd (fun (_ : Unit) => bd (v3_1 + (1 : Int32)) (fun v3_2 : Int32 => (LX1_crosses_2 k63 k71 o t0 v2 v1 n) v3_2)) (fun k65 => if (rd o 8 t0 v3_1.toNatClampNeg) = v2 then (k65 ()) else (grd (inB v3_1 10) (if (rd o 7 t0 v3_1.toNatClampNeg) = v1 then (k63 ()) else (grd (inB v3_1 10) (bd (fun (s_3 : Int32) => grd (inB v3_1 10) (bd (fun (s_4 : Int32) => if s_3 = s_4 then (k65 ()) else (k63 ())) (fun k60 => if v2 ≤ (rd o 8 t0 v3_1.toNatClampNeg) then (k60 ((0 : Int32))) else (k60 ((1 : Int32)))))) (fun k45 => if v1 ≤ (rd o 7 t0 v3_1.toNatClampNeg) then (k45 ((0 : Int32))) else (k45 ((1 : Int32)))))))))))
def F_X1_crosses (o : OM) (t0 : Nat) (v1 : Int32) (v2 : Int32) : Option Int32 := bd (fun (_ : Unit) => grd (isZ ((1 : Int32))) (some ((1 : Int32)))) (fun k63 => bd (fun (_ : Unit) => grd (isZ ((0 : Int32))) (some ((0 : Int32)))) (fun k71 => LX1_crosses_2 k63 k71 o t0 v2 v1 FU ((0 : Int32))))
abbrev rmX1_crosses : Room := { frames := 0, cells := 0, slots := 0, locals := 0 }
set_option maxHeartbeats 4000000 in
set_option maxRecDepth 100000 in
theorem lX1_crosses_2 {G : Gd} {p : Program} {l : Launch} {e : Env} {s : State} {m : MethodId} {args : Array Value} {below : List Frame} {meth : Method} {c : Code} {r : Int32} {o : OM} {t0 : Nat} {v2 : Int32} {v1 : Int32} (C : Cx G RX1 cX1_crosses 4 (some .boolean) p s m args meth c) (ht0 : okb 6 t0 = true) {k63 : Unit → Option Int32} {k71 : Unit → Option Int32} (j63 : ∀ H1 L1 ls, Hp G o s H1 L1 → lv_has ls 4 [] → k63 () = some r → W p l e rmX1_crosses s m args below meth c H1 L1 0 0 (Qm G (some (.int r)) o rmX1_crosses below args s) (F0 m 63 ls [])) (j71 : ∀ H1 L1 ls, Hp G o s H1 L1 → lv_has ls 4 [] → k71 () = some r → W p l e rmX1_crosses s m args below meth c H1 L1 0 0 (Qm G (some (.int r)) o rmX1_crosses below args s) (F0 m 71 ls [])) : ∀ (n : Nat) (v3_1 : Int32) H1 L1 ls, Hp G o s H1 L1 → lv_has ls 4 [(0, .ref (rA G 6 t0)), (1, .int v1), (2, .int v2), (3, .int v3_1)] → LX1_crosses_2 k63 k71 o t0 v2 v1 n v3_1 = some r → W p l e rmX1_crosses s m args below meth c H1 L1 0 0 (Qm G (some (.int r)) o rmX1_crosses below args s) (F0 m 2 ls []) := by
  intro n
  induction n with
  | zero =>
    intro v3_1 H1 L1 ls P hl hf
    exact nomatch hf
  | succ n ih =>
    intro v3_1 H1 L1 ls P hl hf
    rw [LX1_crosses_2.eq_2] at hf
    refine r_iload_n C hl 3 rfl rfl dX1_crosses_2 ?_
    refine r_aload_n C hl 0 rfl rfl dX1_crosses_3 ?_
    refine gf_6_0 C P ht0 wd_62 dX1_crosses_4 ?_
    refine r_icmp_ge C dX1_crosses_7 hf (fun hf => ?_) (fun hf => ?_)
    · exact j71  _ _ _ P (lv_sub hl [] rfl) hf
    · refine r_aload_n C hl 0 rfl rfl dX1_crosses_10 ?_
      refine gf_6_2 C P ht0 wd_68 dX1_crosses_11 ?_
      refine r_iload_n C hl 3 rfl rfl dX1_crosses_14 ?_
      refine r_iald C P (k := 8) (i := t0) (n := 10) (fun _ _ => rfl) ht0 dX1_crosses_15 hf (fun hf => ?_)
      refine r_iload_n C hl 2 rfl rfl dX1_crosses_16 ?_
      refine r_jn (fun k65 : Unit → Option Int32 => ∀ H1 L1 ls, Hp G o s H1 L1 → lv_has ls 4 [(0, .ref (rA G 6 t0)), (1, .int v1), (2, .int v2), (3, .int v3_1)] → k65 () = some r → W p l e rmX1_crosses s m args below meth c H1 L1 0 0 (Qm G (some (.int r)) o rmX1_crosses below args s) (F0 m 65 ls [])) hf ?_ (fun k65 j65 hf => ?_)
      · intro  H1 L1 ls  P hl hf
        refine r_iinc C (fun v3_2 => [(3, .int v3_2), (0, .ref (rA G 6 t0)), (1, .int v1), (2, .int v2)]) (w := 1) 3 hl rfl (by decide) (by decide) (fun _ => rfl) dX1_crosses_65 hf (fun v3_2 ls hl hf => ?_)
        refine r_goto C dX1_crosses_68 ?_
        exact ih v3_2 _ _ _ P (lv_sub hl [1, 2, 3, 0] rfl) hf
      refine r_icmp_eq C dX1_crosses_17 hf (fun hf => ?_) (fun hf => ?_)
      · exact j65  _ _ _ P (lv_sub hl [0, 1, 2, 3] rfl) hf
      · refine r_aload_n C hl 0 rfl rfl dX1_crosses_20 ?_
        refine gf_6_1 C P ht0 wd_66 dX1_crosses_21 ?_
        refine r_iload_n C hl 3 rfl rfl dX1_crosses_24 ?_
        refine r_iald C P (k := 7) (i := t0) (n := 10) (fun _ _ => rfl) ht0 dX1_crosses_25 hf (fun hf => ?_)
        refine r_iload_n C hl 1 rfl rfl dX1_crosses_26 ?_
        refine r_icmp_eq C dX1_crosses_27 hf (fun hf => ?_) (fun hf => ?_)
        · exact j63  _ _ _ P (lv_sub hl [] rfl) hf
        · refine r_aload_n C hl 0 rfl rfl dX1_crosses_30 ?_
          refine gf_6_1 C P ht0 wd_66 dX1_crosses_31 ?_
          refine r_iload_n C hl 3 rfl rfl dX1_crosses_34 ?_
          refine r_iald C P (k := 7) (i := t0) (n := 10) (fun _ _ => rfl) ht0 dX1_crosses_35 hf (fun hf => ?_)
          refine r_iload_n C hl 1 rfl rfl dX1_crosses_36 ?_
          refine r_jn (fun k45 : Int32 → Option Int32 => ∀ (s_3 : Int32) H1 L1 ls, Hp G o s H1 L1 → lv_has ls 4 [(0, .ref (rA G 6 t0)), (1, .int v1), (2, .int v2), (3, .int v3_1)] → k45 s_3 = some r → W p l e rmX1_crosses s m args below meth c H1 L1 0 0 (Qm G (some (.int r)) o rmX1_crosses below args s) (F0 m 45 ls [.int s_3])) hf ?_ (fun k45 j45 hf => ?_)
          · intro s_3 H1 L1 ls  P hl hf
            refine r_aload_n C hl 0 rfl rfl dX1_crosses_45 ?_
            refine gf_6_2 C P ht0 wd_68 dX1_crosses_46 ?_
            refine r_iload_n C hl 3 rfl rfl dX1_crosses_49 ?_
            refine r_iald C P (k := 8) (i := t0) (n := 10) (fun _ _ => rfl) ht0 dX1_crosses_50 hf (fun hf => ?_)
            refine r_iload_n C hl 2 rfl rfl dX1_crosses_51 ?_
            refine r_jn (fun k60 : Int32 → Option Int32 => ∀ (s_4 : Int32) H1 L1 ls, Hp G o s H1 L1 → lv_has ls 4 [(0, .ref (rA G 6 t0)), (1, .int v1), (2, .int v2), (3, .int v3_1)] → k60 s_4 = some r → W p l e rmX1_crosses s m args below meth c H1 L1 0 0 (Qm G (some (.int r)) o rmX1_crosses below args s) (F0 m 60 ls [.int s_4, .int s_3])) hf ?_ (fun k60 j60 hf => ?_)
            · intro s_4 H1 L1 ls  P hl hf
              refine r_icmp_eq C dX1_crosses_60 hf (fun hf => ?_) (fun hf => ?_)
              · exact j65  _ _ _ P (lv_sub hl [0, 1, 2, 3] rfl) hf
              · exact j63  _ _ _ P (lv_sub hl [] rfl) hf
            refine r_icmp_ge C dX1_crosses_52 hf (fun hf => ?_) (fun hf => ?_)
            · refine r_iconst C (v := 0) (by decide) dX1_crosses_59 ?_
              exact j60 ((0 : Int32)) _ _ _ P (lv_sub hl [0, 1, 2, 3] rfl) hf
            · refine r_iconst C (v := 1) (by decide) dX1_crosses_55 ?_
              refine r_goto C dX1_crosses_56 ?_
              exact j60 ((1 : Int32)) _ _ _ P (lv_sub hl [0, 1, 2, 3] rfl) hf
          refine r_icmp_ge C dX1_crosses_37 hf (fun hf => ?_) (fun hf => ?_)
          · refine r_iconst C (v := 0) (by decide) dX1_crosses_44 ?_
            exact j45 ((0 : Int32)) _ _ _ P (lv_sub hl [0, 1, 2, 3] rfl) hf
          · refine r_iconst C (v := 1) (by decide) dX1_crosses_40 ?_
            refine r_goto C dX1_crosses_41 ?_
            exact j45 ((1 : Int32)) _ _ _ P (lv_sub hl [0, 1, 2, 3] rfl) hf
set_option maxHeartbeats 4000000 in
set_option maxRecDepth 100000 in
theorem wX1_crosses {G : Gd} {p : Program} {l : Launch} {e : Env} {s : State} {m : MethodId} {args : Array Value} {below : List Frame} {meth : Method} {c : Code} {o : OM} {H : Heap} {L0 : List Loc} {ls : Array Slot} {r : Int32} {t0 : Nat} {v1 : Int32} {v2 : Int32} (C : Cx G RX1 cX1_crosses 4 (some .boolean) p s m args meth c) (ht0 : okb 6 t0 = true) (P : Hp G o s H L0) (hl : lv_has ls 4 [(0, .ref (rA G 6 t0)), (1, .int v1), (2, .int v2)]) (hf : F_X1_crosses o t0 v1 v2 = some r) : W p l e rmX1_crosses s m args below meth c H L0 0 0 (Qm G (some (.int r)) o rmX1_crosses below args s) (F0 m 0 ls []) := by
  unfold F_X1_crosses at hf
  refine r_iconst C (v := 0) (by decide) dX1_crosses_0 ?_
  refine r_istore_n C [(3, .int ((0 : Int32))), (0, .ref (rA G 6 t0)), (1, .int v1), (2, .int v2)] hl (by decide) rfl rfl dX1_crosses_1 (fun ls hl => ?_)
  refine r_jn (fun k63 : Unit → Option Int32 => ∀ H1 L1 ls, Hp G o s H1 L1 → lv_has ls 4 [] → k63 () = some r → W p l e rmX1_crosses s m args below meth c H1 L1 0 0 (Qm G (some (.int r)) o rmX1_crosses below args s) (F0 m 63 ls [])) hf ?_ (fun k63 j63 hf => ?_)
  · intro  H1 L1 ls  P hl hf
    refine r_iconst C (v := 1) (by decide) dX1_crosses_63 ?_
    exact q_zret C P (rm := rmX1_crosses) ⟨rfl, rfl⟩ dX1_crosses_64 hf
  refine r_jn (fun k71 : Unit → Option Int32 => ∀ H1 L1 ls, Hp G o s H1 L1 → lv_has ls 4 [] → k71 () = some r → W p l e rmX1_crosses s m args below meth c H1 L1 0 0 (Qm G (some (.int r)) o rmX1_crosses below args s) (F0 m 71 ls [])) hf ?_ (fun k71 j71 hf => ?_)
  · intro  H1 L1 ls  P hl hf
    refine r_iconst C (v := 0) (by decide) dX1_crosses_71 ?_
    exact q_zret C P (rm := rmX1_crosses) ⟨rfl, rfl⟩ dX1_crosses_72 hf
  exact lX1_crosses_2 C ht0 j63 j71 FU ((0 : Int32)) _ _ _ P (lv_sub hl [1, 2, 3, 0] rfl) hf
theorem ctX1_crosses (l : Launch) (G : Gd) (o : OM) (t0 : Nat) (v1 : Int32) (v2 : Int32) (ht0 : okb 6 t0 = true) {r : Int32} (hf : F_X1_crosses o t0 v1 v2 = some r) : Ct l yX1_crosses cX1_crosses 4 (some .boolean) rmX1_crosses G [.ref (rA G 6 t0), .int v1, .int v2] o (some (.int r)) o := ct_of (by decide +kernel) (Nat.le_of_ble_eq_true rfl) (fun p e s m below meth c ls C P hl => wX1_crosses C ht0 P hl hf)
theorem dX1_hang_0 : Dc cX1_hang 0 (.aload_n 0) 1 1 := ⟨by decide +kernel, rfl⟩
theorem dX1_hang_1 : Dc cX1_hang 1 (.getfield 21) 3 4 := ⟨by decide +kernel, rfl⟩
theorem dX1_hang_4 : Dc cX1_hang 4 (.iload_n 1) 1 5 := ⟨by decide +kernel, rfl⟩
theorem dX1_hang_5 : Dc cX1_hang 5 (.iconst (-1)) 1 6 := ⟨by decide +kernel, rfl⟩
theorem dX1_hang_6 : Dc cX1_hang 6 (.iastore) 1 7 := ⟨by decide +kernel, rfl⟩
theorem dX1_hang_7 : Dc cX1_hang 7 (.aload_n 0) 1 8 := ⟨by decide +kernel, rfl⟩
theorem dX1_hang_8 : Dc cX1_hang 8 (.getfield 24) 3 11 := ⟨by decide +kernel, rfl⟩
theorem dX1_hang_11 : Dc cX1_hang 11 (.iload_n 1) 1 12 := ⟨by decide +kernel, rfl⟩
theorem dX1_hang_12 : Dc cX1_hang 12 (.iconst (-1)) 1 13 := ⟨by decide +kernel, rfl⟩
theorem dX1_hang_13 : Dc cX1_hang 13 (.iastore) 1 14 := ⟨by decide +kernel, rfl⟩
theorem dX1_hang_14 : Dc cX1_hang 14 (.aload_n 0) 1 15 := ⟨by decide +kernel, rfl⟩
theorem dX1_hang_15 : Dc cX1_hang 15 (.getfield 27) 3 18 := ⟨by decide +kernel, rfl⟩
theorem dX1_hang_18 : Dc cX1_hang 18 (.iload_n 1) 1 19 := ⟨by decide +kernel, rfl⟩
theorem dX1_hang_19 : Dc cX1_hang 19 (.iconst 1) 1 20 := ⟨by decide +kernel, rfl⟩
theorem dX1_hang_20 : Dc cX1_hang 20 (.iastore) 1 21 := ⟨by decide +kernel, rfl⟩
theorem dX1_hang_21 : Dc cX1_hang 21 (.iload_n 1) 1 22 := ⟨by decide +kernel, rfl⟩
theorem dX1_hang_22 : Dj cX1_hang 22 (.ifCond .le 7) 3 25 (7) 29 := ⟨by decide +kernel, rfl, by decide⟩
theorem dX1_hang_25 : Dc cX1_hang 25 (.iconst 0) 1 26 := ⟨by decide +kernel, rfl⟩
theorem dX1_hang_26 : Dj cX1_hang 26 (.goto 4) 3 29 (4) 30 := ⟨by decide +kernel, rfl, by decide⟩
theorem dX1_hang_29 : Dc cX1_hang 29 (.iconst (-1)) 1 30 := ⟨by decide +kernel, rfl⟩
theorem dX1_hang_30 : Dc cX1_hang 30 (.istore_n 2) 1 31 := ⟨by decide +kernel, rfl⟩
theorem dX1_hang_31 : Dc cX1_hang 31 (.iconst 0) 1 32 := ⟨by decide +kernel, rfl⟩
theorem dX1_hang_32 : Dc cX1_hang 32 (.istore_n 3) 1 33 := ⟨by decide +kernel, rfl⟩
theorem dX1_hang_33 : Dc cX1_hang 33 (.iload_n 3) 1 34 := ⟨by decide +kernel, rfl⟩
theorem dX1_hang_34 : Dc cX1_hang 34 (.iload_n 1) 1 35 := ⟨by decide +kernel, rfl⟩
theorem dX1_hang_35 : Dj cX1_hang 35 (.if_icmp .ge 76) 3 38 (76) 111 := ⟨by decide +kernel, rfl, by decide⟩
theorem dX1_hang_38 : Dc cX1_hang 38 (.iload_n 2) 1 39 := ⟨by decide +kernel, rfl⟩
theorem dX1_hang_39 : Dc cX1_hang 39 (.iconst (-1)) 1 40 := ⟨by decide +kernel, rfl⟩
theorem dX1_hang_40 : Dj cX1_hang 40 (.if_icmp .eq 71) 3 43 (71) 111 := ⟨by decide +kernel, rfl, by decide⟩
theorem dX1_hang_43 : Dc cX1_hang 43 (.aload_n 0) 1 44 := ⟨by decide +kernel, rfl⟩
theorem dX1_hang_44 : Dc cX1_hang 44 (.getfield 9) 3 47 := ⟨by decide +kernel, rfl⟩
theorem dX1_hang_47 : Dc cX1_hang 47 (.iload_n 1) 1 48 := ⟨by decide +kernel, rfl⟩
theorem dX1_hang_48 : Dc cX1_hang 48 (.iaload) 1 49 := ⟨by decide +kernel, rfl⟩
theorem dX1_hang_49 : Dc cX1_hang 49 (.aload_n 0) 1 50 := ⟨by decide +kernel, rfl⟩
theorem dX1_hang_50 : Dc cX1_hang 50 (.getfield 9) 3 53 := ⟨by decide +kernel, rfl⟩
theorem dX1_hang_53 : Dc cX1_hang 53 (.iload_n 2) 1 54 := ⟨by decide +kernel, rfl⟩
theorem dX1_hang_54 : Dc cX1_hang 54 (.iaload) 1 55 := ⟨by decide +kernel, rfl⟩
theorem dX1_hang_55 : Dj cX1_hang 55 (.if_icmp .ge 10) 3 58 (10) 65 := ⟨by decide +kernel, rfl, by decide⟩
theorem dX1_hang_58 : Dc cX1_hang 58 (.aload_n 0) 1 59 := ⟨by decide +kernel, rfl⟩
theorem dX1_hang_59 : Dc cX1_hang 59 (.getfield 21) 3 62 := ⟨by decide +kernel, rfl⟩
theorem dX1_hang_62 : Dj cX1_hang 62 (.goto 7) 3 65 (7) 69 := ⟨by decide +kernel, rfl, by decide⟩
theorem dX1_hang_65 : Dc cX1_hang 65 (.aload_n 0) 1 66 := ⟨by decide +kernel, rfl⟩
theorem dX1_hang_66 : Dc cX1_hang 66 (.getfield 24) 3 69 := ⟨by decide +kernel, rfl⟩
theorem dX1_hang_69 : Dc cX1_hang 69 (.astore 4) 2 71 := ⟨by decide +kernel, rfl⟩
theorem dX1_hang_71 : Dc cX1_hang 71 (.aload 4) 2 73 := ⟨by decide +kernel, rfl⟩
theorem dX1_hang_73 : Dc cX1_hang 73 (.iload_n 2) 1 74 := ⟨by decide +kernel, rfl⟩
theorem dX1_hang_74 : Dc cX1_hang 74 (.iaload) 1 75 := ⟨by decide +kernel, rfl⟩
theorem dX1_hang_75 : Dc cX1_hang 75 (.istore 5) 2 77 := ⟨by decide +kernel, rfl⟩
theorem dX1_hang_77 : Dc cX1_hang 77 (.iload 5) 2 79 := ⟨by decide +kernel, rfl⟩
theorem dX1_hang_79 : Dc cX1_hang 79 (.iconst (-1)) 1 80 := ⟨by decide +kernel, rfl⟩
theorem dX1_hang_80 : Dj cX1_hang 80 (.if_icmp .ne 22) 3 83 (22) 102 := ⟨by decide +kernel, rfl, by decide⟩
theorem dX1_hang_83 : Dc cX1_hang 83 (.aload 4) 2 85 := ⟨by decide +kernel, rfl⟩
theorem dX1_hang_85 : Dc cX1_hang 85 (.iload_n 2) 1 86 := ⟨by decide +kernel, rfl⟩
theorem dX1_hang_86 : Dc cX1_hang 86 (.iload_n 1) 1 87 := ⟨by decide +kernel, rfl⟩
theorem dX1_hang_87 : Dc cX1_hang 87 (.iastore) 1 88 := ⟨by decide +kernel, rfl⟩
theorem dX1_hang_88 : Dc cX1_hang 88 (.aload_n 0) 1 89 := ⟨by decide +kernel, rfl⟩
theorem dX1_hang_89 : Dc cX1_hang 89 (.getfield 27) 3 92 := ⟨by decide +kernel, rfl⟩
theorem dX1_hang_92 : Dc cX1_hang 92 (.iload_n 1) 1 93 := ⟨by decide +kernel, rfl⟩
theorem dX1_hang_93 : Dc cX1_hang 93 (.aload_n 0) 1 94 := ⟨by decide +kernel, rfl⟩
theorem dX1_hang_94 : Dc cX1_hang 94 (.getfield 27) 3 97 := ⟨by decide +kernel, rfl⟩
theorem dX1_hang_97 : Dc cX1_hang 97 (.iload_n 2) 1 98 := ⟨by decide +kernel, rfl⟩
theorem dX1_hang_98 : Dc cX1_hang 98 (.iaload) 1 99 := ⟨by decide +kernel, rfl⟩
theorem dX1_hang_99 : Dc cX1_hang 99 (.iconst 1) 1 100 := ⟨by decide +kernel, rfl⟩
theorem dX1_hang_100 : Dc cX1_hang 100 (.iadd) 1 101 := ⟨by decide +kernel, rfl⟩
theorem dX1_hang_101 : Dc cX1_hang 101 (.iastore) 1 102 := ⟨by decide +kernel, rfl⟩
theorem dX1_hang_102 : Dc cX1_hang 102 (.iload 5) 2 104 := ⟨by decide +kernel, rfl⟩
theorem dX1_hang_104 : Dc cX1_hang 104 (.istore_n 2) 1 105 := ⟨by decide +kernel, rfl⟩
theorem dX1_hang_105 : Dc cX1_hang 105 (.iinc 3 1) 3 108 := ⟨by decide +kernel, rfl⟩
theorem dX1_hang_108 : Dj cX1_hang 108 (.goto (-75)) 3 111 (-75) 33 := ⟨by decide +kernel, rfl, by decide⟩
theorem dX1_hang_111 : Dc cX1_hang 111 (.return_) 1 112 := ⟨by decide +kernel, rfl⟩
def LX1_hang_33 (k111 : OM → Option (Unit × OM)) (v1 : Int32) (t0 : Nat) : Nat → OM → Int32 → Int32 → Option (Unit × OM)
  | 0 => fun _ _ _ => none
  | n + 1 => fun o_8 v2_6 v3_7 => if v1 ≤ v3_7 then (k111 o_8) else (if v2_6 = ((-1 : Int32)) then (k111 o_8) else (grd (inB v1 10) (grd (inB v2_6 10) (if (rd o_8 7 t0 v2_6.toNatClampNeg) ≤ (rd o_8 7 t0 v1.toNatClampNeg) then (grd (inB v2_6 10) (bd (rd o_8 11 t0 v2_6.toNatClampNeg) (fun v5_9 : Int32 => bd (fun (o_10 : OM) => bd (v3_7 + (1 : Int32)) (fun v3_11 : Int32 => (LX1_hang_33 k111 v1 t0 n) o_10 v5_9 v3_11)) (fun k102 => if v5_9 = ((-1 : Int32)) then (grd (inB v2_6 10) (bd (wr o_8 11 t0 v2_6.toNatClampNeg v1) (fun o_12 : OM => grd (inB v2_6 10) (grd (inB v1 10) (bd (wr o_12 12 t0 v1.toNatClampNeg ((rd o_12 12 t0 v2_6.toNatClampNeg) + ((1 : Int32)))) (fun o_13 : OM => k102 o_13)))))) else (k102 o_8))))) else (grd (inB v2_6 10) (bd (rd o_8 10 t0 v2_6.toNatClampNeg) (fun v5_14 : Int32 => bd (fun (o_15 : OM) => bd (v3_7 + (1 : Int32)) (fun v3_16 : Int32 => (LX1_hang_33 k111 v1 t0 n) o_15 v5_14 v3_16)) (fun k102 => if v5_14 = ((-1 : Int32)) then (grd (inB v2_6 10) (bd (wr o_8 10 t0 v2_6.toNatClampNeg v1) (fun o_17 : OM => grd (inB v2_6 10) (grd (inB v1 10) (bd (wr o_17 12 t0 v1.toNatClampNeg ((rd o_17 12 t0 v2_6.toNatClampNeg) + ((1 : Int32)))) (fun o_18 : OM => k102 o_18)))))) else (k102 o_8)))))))))
def F_X1_hang (o : OM) (t0 : Nat) (v1 : Int32) : Option (Unit × OM) := grd (inB v1 10) (bd (wr o 10 t0 v1.toNatClampNeg ((-1 : Int32))) (fun o_1 : OM => grd (inB v1 10) (bd (wr o_1 11 t0 v1.toNatClampNeg ((-1 : Int32))) (fun o_2 : OM => grd (inB v1 10) (bd (wr o_2 12 t0 v1.toNatClampNeg ((1 : Int32))) (fun o_3 : OM => bd (fun (s_4 : Int32) => bd (fun (o_5 : OM) => some ((), o_5)) (fun k111 => LX1_hang_33 k111 v1 t0 FU o_3 s_4 ((0 : Int32)))) (fun k30 => if v1 ≤ 0 then (k30 ((-1 : Int32))) else (k30 ((0 : Int32))))))))))
abbrev rmX1_hang : Room := { frames := 0, cells := 0, slots := 0, locals := 0 }
set_option maxHeartbeats 4000000 in
set_option maxRecDepth 100000 in
theorem lX1_hang_33 {G : Gd} {p : Program} {l : Launch} {e : Env} {s : State} {m : MethodId} {args : Array Value} {below : List Frame} {meth : Method} {c : Code} {r : Unit} {o9 : OM} {v1 : Int32} {t0 : Nat} (C : Cx G RX1 cX1_hang 6 none p s m args meth c) (ht0 : okb 6 t0 = true) {k111 : OM → Option (Unit × OM)} (j111 : ∀ (o_5 : OM) H1 L1 ls, Hp G o_5 s H1 L1 → lv_has ls 6 [] → k111 o_5 = some (r, o9) → W p l e rmX1_hang s m args below meth c H1 L1 0 0 (Qm G none o9 rmX1_hang below args s) (F0 m 111 ls [])) : ∀ (n : Nat) (o_8 : OM) (v2_6 : Int32) (v3_7 : Int32) H1 L1 ls, Hp G o_8 s H1 L1 → lv_has ls 6 [(0, .ref (rA G 6 t0)), (1, .int v1), (2, .int v2_6), (3, .int v3_7)] → LX1_hang_33 k111 v1 t0 n o_8 v2_6 v3_7 = some (r, o9) → W p l e rmX1_hang s m args below meth c H1 L1 0 0 (Qm G none o9 rmX1_hang below args s) (F0 m 33 ls []) := by
  intro n
  induction n with
  | zero =>
    intro o_8 v2_6 v3_7 H1 L1 ls P hl hf
    exact nomatch hf
  | succ n ih =>
    intro o_8 v2_6 v3_7 H1 L1 ls P hl hf
    rw [LX1_hang_33.eq_2] at hf
    refine r_iload_n C hl 3 rfl rfl dX1_hang_33 ?_
    refine r_iload_n C hl 1 rfl rfl dX1_hang_34 ?_
    refine r_icmp_ge C dX1_hang_35 hf (fun hf => ?_) (fun hf => ?_)
    · exact j111 o_8 _ _ _ P (lv_sub hl [] rfl) hf
    · refine r_iload_n C hl 2 rfl rfl dX1_hang_38 ?_
      refine r_iconst C (v := -1) (by decide) dX1_hang_39 ?_
      refine r_icmp_eq C dX1_hang_40 hf (fun hf => ?_) (fun hf => ?_)
      · exact j111 o_8 _ _ _ P (lv_sub hl [] rfl) hf
      · refine r_aload_n C hl 0 rfl rfl dX1_hang_43 ?_
        refine gf_6_1 C P ht0 wd_66 dX1_hang_44 ?_
        refine r_iload_n C hl 1 rfl rfl dX1_hang_47 ?_
        refine r_iald C P (k := 7) (i := t0) (n := 10) (fun _ _ => rfl) ht0 dX1_hang_48 hf (fun hf => ?_)
        refine r_aload_n C hl 0 rfl rfl dX1_hang_49 ?_
        refine gf_6_1 C P ht0 wd_66 dX1_hang_50 ?_
        refine r_iload_n C hl 2 rfl rfl dX1_hang_53 ?_
        refine r_iald C P (k := 7) (i := t0) (n := 10) (fun _ _ => rfl) ht0 dX1_hang_54 hf (fun hf => ?_)
        refine r_icmp_ge C dX1_hang_55 hf (fun hf => ?_) (fun hf => ?_)
        · refine r_aload_n C hl 0 rfl rfl dX1_hang_65 ?_
          refine gf_6_5 C P ht0 wd_74 dX1_hang_66 ?_
          refine r_astore C [(4, .ref (rA G 11 t0)), (0, .ref (rA G 6 t0)), (1, .int v1), (2, .int v2_6), (3, .int v3_7)] hl (by decide) rfl dX1_hang_69 (fun ls hl => ?_)
          refine r_aload C hl 0 rfl dX1_hang_71 ?_
          refine r_iload_n C hl 3 rfl rfl dX1_hang_73 ?_
          refine r_iald C P (k := 11) (i := t0) (n := 10) (fun _ _ => rfl) ht0 dX1_hang_74 hf (fun hf => ?_)
          refine r_bdi hf (fun v5_9 hf => ?_)
          refine r_istore C [(5, .int v5_9), (4, .ref (rA G 11 t0)), (0, .ref (rA G 6 t0)), (1, .int v1), (2, .int v2_6), (3, .int v3_7)] hl (by decide) rfl dX1_hang_75 (fun ls hl => ?_)
          refine r_iload C hl 0 rfl dX1_hang_77 ?_
          refine r_iconst C (v := -1) (by decide) dX1_hang_79 ?_
          refine r_jn (fun k102 : OM → Option (Unit × OM) => ∀ (o_10 : OM) H1 L1 ls, Hp G o_10 s H1 L1 → lv_has ls 6 [(0, .ref (rA G 6 t0)), (1, .int v1), (3, .int v3_7), (5, .int v5_9)] → k102 o_10 = some (r, o9) → W p l e rmX1_hang s m args below meth c H1 L1 0 0 (Qm G none o9 rmX1_hang below args s) (F0 m 102 ls [])) hf ?_ (fun k102 j102 hf => ?_)
          · intro o_10 H1 L1 ls  P hl hf
            refine r_iload C hl 3 rfl dX1_hang_102 ?_
            refine r_istore_n C [(2, .int v5_9), (0, .ref (rA G 6 t0)), (1, .int v1), (3, .int v3_7), (5, .int v5_9)] hl (by decide) rfl rfl dX1_hang_104 (fun ls hl => ?_)
            refine r_iinc C (fun v3_11 => [(3, .int v3_11), (2, .int v5_9), (0, .ref (rA G 6 t0)), (1, .int v1), (5, .int v5_9)]) (w := 1) 3 hl rfl (by decide) (by decide) (fun _ => rfl) dX1_hang_105 hf (fun v3_11 ls hl hf => ?_)
            refine r_goto C dX1_hang_108 ?_
            exact ih o_10 v5_9 v3_11 _ _ _ P (lv_sub hl [2, 3, 1, 0] rfl) hf
          refine r_icmp_ne C dX1_hang_80 hf (fun hf => ?_) (fun hf => ?_)
          · exact j102 o_8 _ _ _ P (lv_sub hl [2, 3, 5, 0] rfl) hf
          · refine r_aload C hl 1 rfl dX1_hang_83 ?_
            refine r_iload_n C hl 4 rfl rfl dX1_hang_85 ?_
            refine r_iload_n C hl 3 rfl rfl dX1_hang_86 ?_
            refine r_iast C P (k := 11) (i := t0) (n := 10) (fun _ _ => rfl) ht0 dX1_hang_87 hf (fun o_12 H1 L1 P hf => ?_)
            refine r_aload_n C hl 2 rfl rfl dX1_hang_88 ?_
            refine gf_6_6 C P ht0 wd_75 dX1_hang_89 ?_
            refine r_iload_n C hl 3 rfl rfl dX1_hang_92 ?_
            refine r_aload_n C hl 2 rfl rfl dX1_hang_93 ?_
            refine gf_6_6 C P ht0 wd_75 dX1_hang_94 ?_
            refine r_iload_n C hl 4 rfl rfl dX1_hang_97 ?_
            refine r_iald C P (k := 12) (i := t0) (n := 10) (fun _ _ => rfl) ht0 dX1_hang_98 hf (fun hf => ?_)
            refine r_iconst C (v := 1) (by decide) dX1_hang_99 ?_
            refine r_iadd2 C dX1_hang_100 ?_
            refine r_iast C P (k := 12) (i := t0) (n := 10) (fun _ _ => rfl) ht0 dX1_hang_101 hf (fun o_13 H1 L1 P hf => ?_)
            exact j102 o_13 _ _ _ P (lv_sub hl [2, 3, 5, 0] rfl) hf
        · refine r_aload_n C hl 0 rfl rfl dX1_hang_58 ?_
          refine gf_6_4 C P ht0 wd_73 dX1_hang_59 ?_
          refine r_goto C dX1_hang_62 ?_
          refine r_astore C [(4, .ref (rA G 10 t0)), (0, .ref (rA G 6 t0)), (1, .int v1), (2, .int v2_6), (3, .int v3_7)] hl (by decide) rfl dX1_hang_69 (fun ls hl => ?_)
          refine r_aload C hl 0 rfl dX1_hang_71 ?_
          refine r_iload_n C hl 3 rfl rfl dX1_hang_73 ?_
          refine r_iald C P (k := 10) (i := t0) (n := 10) (fun _ _ => rfl) ht0 dX1_hang_74 hf (fun hf => ?_)
          refine r_bdi hf (fun v5_14 hf => ?_)
          refine r_istore C [(5, .int v5_14), (4, .ref (rA G 10 t0)), (0, .ref (rA G 6 t0)), (1, .int v1), (2, .int v2_6), (3, .int v3_7)] hl (by decide) rfl dX1_hang_75 (fun ls hl => ?_)
          refine r_iload C hl 0 rfl dX1_hang_77 ?_
          refine r_iconst C (v := -1) (by decide) dX1_hang_79 ?_
          refine r_jn (fun k102 : OM → Option (Unit × OM) => ∀ (o_15 : OM) H1 L1 ls, Hp G o_15 s H1 L1 → lv_has ls 6 [(0, .ref (rA G 6 t0)), (1, .int v1), (3, .int v3_7), (5, .int v5_14)] → k102 o_15 = some (r, o9) → W p l e rmX1_hang s m args below meth c H1 L1 0 0 (Qm G none o9 rmX1_hang below args s) (F0 m 102 ls [])) hf ?_ (fun k102 j102 hf => ?_)
          · intro o_15 H1 L1 ls  P hl hf
            refine r_iload C hl 3 rfl dX1_hang_102 ?_
            refine r_istore_n C [(2, .int v5_14), (0, .ref (rA G 6 t0)), (1, .int v1), (3, .int v3_7), (5, .int v5_14)] hl (by decide) rfl rfl dX1_hang_104 (fun ls hl => ?_)
            refine r_iinc C (fun v3_16 => [(3, .int v3_16), (2, .int v5_14), (0, .ref (rA G 6 t0)), (1, .int v1), (5, .int v5_14)]) (w := 1) 3 hl rfl (by decide) (by decide) (fun _ => rfl) dX1_hang_105 hf (fun v3_16 ls hl hf => ?_)
            refine r_goto C dX1_hang_108 ?_
            exact ih o_15 v5_14 v3_16 _ _ _ P (lv_sub hl [2, 3, 1, 0] rfl) hf
          refine r_icmp_ne C dX1_hang_80 hf (fun hf => ?_) (fun hf => ?_)
          · exact j102 o_8 _ _ _ P (lv_sub hl [2, 3, 5, 0] rfl) hf
          · refine r_aload C hl 1 rfl dX1_hang_83 ?_
            refine r_iload_n C hl 4 rfl rfl dX1_hang_85 ?_
            refine r_iload_n C hl 3 rfl rfl dX1_hang_86 ?_
            refine r_iast C P (k := 10) (i := t0) (n := 10) (fun _ _ => rfl) ht0 dX1_hang_87 hf (fun o_17 H1 L1 P hf => ?_)
            refine r_aload_n C hl 2 rfl rfl dX1_hang_88 ?_
            refine gf_6_6 C P ht0 wd_75 dX1_hang_89 ?_
            refine r_iload_n C hl 3 rfl rfl dX1_hang_92 ?_
            refine r_aload_n C hl 2 rfl rfl dX1_hang_93 ?_
            refine gf_6_6 C P ht0 wd_75 dX1_hang_94 ?_
            refine r_iload_n C hl 4 rfl rfl dX1_hang_97 ?_
            refine r_iald C P (k := 12) (i := t0) (n := 10) (fun _ _ => rfl) ht0 dX1_hang_98 hf (fun hf => ?_)
            refine r_iconst C (v := 1) (by decide) dX1_hang_99 ?_
            refine r_iadd2 C dX1_hang_100 ?_
            refine r_iast C P (k := 12) (i := t0) (n := 10) (fun _ _ => rfl) ht0 dX1_hang_101 hf (fun o_18 H1 L1 P hf => ?_)
            exact j102 o_18 _ _ _ P (lv_sub hl [2, 3, 5, 0] rfl) hf
set_option maxHeartbeats 4000000 in
set_option maxRecDepth 100000 in
theorem wX1_hang {G : Gd} {p : Program} {l : Launch} {e : Env} {s : State} {m : MethodId} {args : Array Value} {below : List Frame} {meth : Method} {c : Code} {o : OM} {H : Heap} {L0 : List Loc} {ls : Array Slot} {r : Unit} {o9 : OM} {t0 : Nat} {v1 : Int32} (C : Cx G RX1 cX1_hang 6 none p s m args meth c) (ht0 : okb 6 t0 = true) (P : Hp G o s H L0) (hl : lv_has ls 6 [(0, .ref (rA G 6 t0)), (1, .int v1)]) (hf : F_X1_hang o t0 v1 = some (r, o9)) : W p l e rmX1_hang s m args below meth c H L0 0 0 (Qm G none o9 rmX1_hang below args s) (F0 m 0 ls []) := by
  unfold F_X1_hang at hf
  refine r_aload_n C hl 0 rfl rfl dX1_hang_0 ?_
  refine gf_6_4 C P ht0 wd_73 dX1_hang_1 ?_
  refine r_iload_n C hl 1 rfl rfl dX1_hang_4 ?_
  refine r_iconst C (v := -1) (by decide) dX1_hang_5 ?_
  refine r_iast C P (k := 10) (i := t0) (n := 10) (fun _ _ => rfl) ht0 dX1_hang_6 hf (fun o_1 H1 L1 P hf => ?_)
  refine r_aload_n C hl 0 rfl rfl dX1_hang_7 ?_
  refine gf_6_5 C P ht0 wd_74 dX1_hang_8 ?_
  refine r_iload_n C hl 1 rfl rfl dX1_hang_11 ?_
  refine r_iconst C (v := -1) (by decide) dX1_hang_12 ?_
  refine r_iast C P (k := 11) (i := t0) (n := 10) (fun _ _ => rfl) ht0 dX1_hang_13 hf (fun o_2 H1 L1 P hf => ?_)
  refine r_aload_n C hl 0 rfl rfl dX1_hang_14 ?_
  refine gf_6_6 C P ht0 wd_75 dX1_hang_15 ?_
  refine r_iload_n C hl 1 rfl rfl dX1_hang_18 ?_
  refine r_iconst C (v := 1) (by decide) dX1_hang_19 ?_
  refine r_iast C P (k := 12) (i := t0) (n := 10) (fun _ _ => rfl) ht0 dX1_hang_20 hf (fun o_3 H1 L1 P hf => ?_)
  refine r_iload_n C hl 1 rfl rfl dX1_hang_21 ?_
  refine r_jn (fun k30 : Int32 → Option (Unit × OM) => ∀ (s_4 : Int32) H1 L1 ls, Hp G o_3 s H1 L1 → lv_has ls 6 [(0, .ref (rA G 6 t0)), (1, .int v1)] → k30 s_4 = some (r, o9) → W p l e rmX1_hang s m args below meth c H1 L1 0 0 (Qm G none o9 rmX1_hang below args s) (F0 m 30 ls [.int s_4])) hf ?_ (fun k30 j30 hf => ?_)
  · intro s_4 H1 L1 ls  P hl hf
    refine r_istore_n C [(2, .int s_4), (0, .ref (rA G 6 t0)), (1, .int v1)] hl (by decide) rfl rfl dX1_hang_30 (fun ls hl => ?_)
    refine r_iconst C (v := 0) (by decide) dX1_hang_31 ?_
    refine r_istore_n C [(3, .int ((0 : Int32))), (2, .int s_4), (0, .ref (rA G 6 t0)), (1, .int v1)] hl (by decide) rfl rfl dX1_hang_32 (fun ls hl => ?_)
    refine r_jn (fun k111 : OM → Option (Unit × OM) => ∀ (o_5 : OM) H1 L1 ls, Hp G o_5 s H1 L1 → lv_has ls 6 [] → k111 o_5 = some (r, o9) → W p l e rmX1_hang s m args below meth c H1 L1 0 0 (Qm G none o9 rmX1_hang below args s) (F0 m 111 ls [])) hf ?_ (fun k111 j111 hf => ?_)
    · intro o_5 H1 L1 ls  P hl hf
      exact r_vret C P (rm := rmX1_hang) ⟨rfl, rfl⟩ dX1_hang_111 hf
    exact lX1_hang_33 C ht0 j111 FU o_3 s_4 ((0 : Int32)) _ _ _ P (lv_sub hl [2, 3, 1, 0] rfl) hf
  refine r_if_le C dX1_hang_22 hf (fun hf => ?_) (fun hf => ?_)
  · refine r_iconst C (v := -1) (by decide) dX1_hang_29 ?_
    exact j30 ((-1 : Int32)) _ _ _ P (lv_sub hl [0, 1] rfl) hf
  · refine r_iconst C (v := 0) (by decide) dX1_hang_25 ?_
    refine r_goto C dX1_hang_26 ?_
    exact j30 ((0 : Int32)) _ _ _ P (lv_sub hl [0, 1] rfl) hf
theorem ctX1_hang (l : Launch) (G : Gd) (o : OM) (t0 : Nat) (v1 : Int32) (ht0 : okb 6 t0 = true) {r : Unit} {o9 : OM} (hf : F_X1_hang o t0 v1 = some (r, o9)) : Ct l yX1_hang cX1_hang 6 none rmX1_hang G [.ref (rA G 6 t0), .int v1] o none o9 := ct_of (by decide +kernel) (Nat.le_of_ble_eq_true rfl) (fun p e s m below meth c ls C P hl => wX1_hang C ht0 P hl hf)
theorem dX1_putInOrder_0 : Dc cX1_putInOrder 0 (.iload_n 1) 1 1 := ⟨by decide +kernel, rfl⟩
theorem dX1_putInOrder_1 : Dc cX1_putInOrder 1 (.istore_n 2) 1 2 := ⟨by decide +kernel, rfl⟩
theorem dX1_putInOrder_2 : Dc cX1_putInOrder 2 (.iload_n 2) 1 3 := ⟨by decide +kernel, rfl⟩
theorem dX1_putInOrder_3 : Dj cX1_putInOrder 3 (.ifCond .le 45) 3 6 (45) 48 := ⟨by decide +kernel, rfl, by decide⟩
theorem dX1_putInOrder_6 : Dc cX1_putInOrder 6 (.aload_n 0) 1 7 := ⟨by decide +kernel, rfl⟩
theorem dX1_putInOrder_7 : Dc cX1_putInOrder 7 (.getfield 9) 3 10 := ⟨by decide +kernel, rfl⟩
theorem dX1_putInOrder_10 : Dc cX1_putInOrder 10 (.aload_n 0) 1 11 := ⟨by decide +kernel, rfl⟩
theorem dX1_putInOrder_11 : Dc cX1_putInOrder 11 (.getfield 30) 3 14 := ⟨by decide +kernel, rfl⟩
theorem dX1_putInOrder_14 : Dc cX1_putInOrder 14 (.iload_n 2) 1 15 := ⟨by decide +kernel, rfl⟩
theorem dX1_putInOrder_15 : Dc cX1_putInOrder 15 (.iconst 1) 1 16 := ⟨by decide +kernel, rfl⟩
theorem dX1_putInOrder_16 : Dc cX1_putInOrder 16 (.isub) 1 17 := ⟨by decide +kernel, rfl⟩
theorem dX1_putInOrder_17 : Dc cX1_putInOrder 17 (.iaload) 1 18 := ⟨by decide +kernel, rfl⟩
theorem dX1_putInOrder_18 : Dc cX1_putInOrder 18 (.iaload) 1 19 := ⟨by decide +kernel, rfl⟩
theorem dX1_putInOrder_19 : Dc cX1_putInOrder 19 (.aload_n 0) 1 20 := ⟨by decide +kernel, rfl⟩
theorem dX1_putInOrder_20 : Dc cX1_putInOrder 20 (.getfield 9) 3 23 := ⟨by decide +kernel, rfl⟩
theorem dX1_putInOrder_23 : Dc cX1_putInOrder 23 (.iload_n 1) 1 24 := ⟨by decide +kernel, rfl⟩
theorem dX1_putInOrder_24 : Dc cX1_putInOrder 24 (.iaload) 1 25 := ⟨by decide +kernel, rfl⟩
theorem dX1_putInOrder_25 : Dj cX1_putInOrder 25 (.if_icmp .le 23) 3 28 (23) 48 := ⟨by decide +kernel, rfl, by decide⟩
theorem dX1_putInOrder_28 : Dc cX1_putInOrder 28 (.aload_n 0) 1 29 := ⟨by decide +kernel, rfl⟩
theorem dX1_putInOrder_29 : Dc cX1_putInOrder 29 (.getfield 30) 3 32 := ⟨by decide +kernel, rfl⟩
theorem dX1_putInOrder_32 : Dc cX1_putInOrder 32 (.iload_n 2) 1 33 := ⟨by decide +kernel, rfl⟩
theorem dX1_putInOrder_33 : Dc cX1_putInOrder 33 (.aload_n 0) 1 34 := ⟨by decide +kernel, rfl⟩
theorem dX1_putInOrder_34 : Dc cX1_putInOrder 34 (.getfield 30) 3 37 := ⟨by decide +kernel, rfl⟩
theorem dX1_putInOrder_37 : Dc cX1_putInOrder 37 (.iload_n 2) 1 38 := ⟨by decide +kernel, rfl⟩
theorem dX1_putInOrder_38 : Dc cX1_putInOrder 38 (.iconst 1) 1 39 := ⟨by decide +kernel, rfl⟩
theorem dX1_putInOrder_39 : Dc cX1_putInOrder 39 (.isub) 1 40 := ⟨by decide +kernel, rfl⟩
theorem dX1_putInOrder_40 : Dc cX1_putInOrder 40 (.iaload) 1 41 := ⟨by decide +kernel, rfl⟩
theorem dX1_putInOrder_41 : Dc cX1_putInOrder 41 (.iastore) 1 42 := ⟨by decide +kernel, rfl⟩
theorem dX1_putInOrder_42 : Dc cX1_putInOrder 42 (.iinc 2 (-1)) 3 45 := ⟨by decide +kernel, rfl⟩
theorem dX1_putInOrder_45 : Dj cX1_putInOrder 45 (.goto (-43)) 3 48 (-43) 2 := ⟨by decide +kernel, rfl, by decide⟩
theorem dX1_putInOrder_48 : Dc cX1_putInOrder 48 (.aload_n 0) 1 49 := ⟨by decide +kernel, rfl⟩
theorem dX1_putInOrder_49 : Dc cX1_putInOrder 49 (.getfield 30) 3 52 := ⟨by decide +kernel, rfl⟩
theorem dX1_putInOrder_52 : Dc cX1_putInOrder 52 (.iload_n 2) 1 53 := ⟨by decide +kernel, rfl⟩
theorem dX1_putInOrder_53 : Dc cX1_putInOrder 53 (.iload_n 1) 1 54 := ⟨by decide +kernel, rfl⟩
theorem dX1_putInOrder_54 : Dc cX1_putInOrder 54 (.iastore) 1 55 := ⟨by decide +kernel, rfl⟩
theorem dX1_putInOrder_55 : Dc cX1_putInOrder 55 (.return_) 1 56 := ⟨by decide +kernel, rfl⟩
def LX1_putInOrder_2 (k48 : OM → Int32 → Option (Unit × OM)) (t0 : Nat) (v1 : Int32) : Nat → OM → Int32 → Option (Unit × OM)
  | 0 => fun _ _ => none
  | n + 1 => fun o_5 v2_4 => if v2_4 ≤ 0 then (k48 o_5 v2_4) else (grd (inB (v2_4 - ((1 : Int32))) 10) (grd (inB (rd o_5 13 t0 (v2_4 - ((1 : Int32))).toNatClampNeg) 10) (grd (inB v1 10) (if (rd o_5 7 t0 (rd o_5 13 t0 (v2_4 - ((1 : Int32))).toNatClampNeg).toNatClampNeg) ≤ (rd o_5 7 t0 v1.toNatClampNeg) then (k48 o_5 v2_4) else (grd (inB (v2_4 - ((1 : Int32))) 10) (grd (inB v2_4 10) (bd (wr o_5 13 t0 v2_4.toNatClampNeg (rd o_5 13 t0 (v2_4 - ((1 : Int32))).toNatClampNeg)) (fun o_6 : OM => bd (v2_4 + (-1 : Int32)) (fun v2_7 : Int32 => (LX1_putInOrder_2 k48 t0 v1 n) o_6 v2_7)))))))))
def F_X1_putInOrder (o : OM) (t0 : Nat) (v1 : Int32) : Option (Unit × OM) := bd (fun (o_2 : OM) (v2_1 : Int32) => grd (inB v2_1 10) (bd (wr o_2 13 t0 v2_1.toNatClampNeg v1) (fun o_3 : OM => some ((), o_3)))) (fun k48 => LX1_putInOrder_2 k48 t0 v1 FU o v1)
abbrev rmX1_putInOrder : Room := { frames := 0, cells := 0, slots := 0, locals := 0 }
set_option maxHeartbeats 4000000 in
set_option maxRecDepth 100000 in
theorem lX1_putInOrder_2 {G : Gd} {p : Program} {l : Launch} {e : Env} {s : State} {m : MethodId} {args : Array Value} {below : List Frame} {meth : Method} {c : Code} {r : Unit} {o9 : OM} {t0 : Nat} {v1 : Int32} (C : Cx G RX1 cX1_putInOrder 3 none p s m args meth c) (ht0 : okb 6 t0 = true) {k48 : OM → Int32 → Option (Unit × OM)} (j48 : ∀ (o_2 : OM) (v2_1 : Int32) H1 L1 ls, Hp G o_2 s H1 L1 → lv_has ls 3 [(0, .ref (rA G 6 t0)), (1, .int v1), (2, .int v2_1)] → k48 o_2 v2_1 = some (r, o9) → W p l e rmX1_putInOrder s m args below meth c H1 L1 0 0 (Qm G none o9 rmX1_putInOrder below args s) (F0 m 48 ls [])) : ∀ (n : Nat) (o_5 : OM) (v2_4 : Int32) H1 L1 ls, Hp G o_5 s H1 L1 → lv_has ls 3 [(0, .ref (rA G 6 t0)), (1, .int v1), (2, .int v2_4)] → LX1_putInOrder_2 k48 t0 v1 n o_5 v2_4 = some (r, o9) → W p l e rmX1_putInOrder s m args below meth c H1 L1 0 0 (Qm G none o9 rmX1_putInOrder below args s) (F0 m 2 ls []) := by
  intro n
  induction n with
  | zero =>
    intro o_5 v2_4 H1 L1 ls P hl hf
    exact nomatch hf
  | succ n ih =>
    intro o_5 v2_4 H1 L1 ls P hl hf
    rw [LX1_putInOrder_2.eq_2] at hf
    refine r_iload_n C hl 2 rfl rfl dX1_putInOrder_2 ?_
    refine r_if_le C dX1_putInOrder_3 hf (fun hf => ?_) (fun hf => ?_)
    · exact j48 o_5 v2_4 _ _ _ P (lv_sub hl [0, 1, 2] rfl) hf
    · refine r_aload_n C hl 0 rfl rfl dX1_putInOrder_6 ?_
      refine gf_6_1 C P ht0 wd_66 dX1_putInOrder_7 ?_
      refine r_aload_n C hl 0 rfl rfl dX1_putInOrder_10 ?_
      refine gf_6_7 C P ht0 wd_77 dX1_putInOrder_11 ?_
      refine r_iload_n C hl 2 rfl rfl dX1_putInOrder_14 ?_
      refine r_iconst C (v := 1) (by decide) dX1_putInOrder_15 ?_
      refine r_isub C dX1_putInOrder_16 ?_
      refine r_iald C P (k := 13) (i := t0) (n := 10) (fun _ _ => rfl) ht0 dX1_putInOrder_17 hf (fun hf => ?_)
      refine r_iald C P (k := 7) (i := t0) (n := 10) (fun _ _ => rfl) ht0 dX1_putInOrder_18 hf (fun hf => ?_)
      refine r_aload_n C hl 0 rfl rfl dX1_putInOrder_19 ?_
      refine gf_6_1 C P ht0 wd_66 dX1_putInOrder_20 ?_
      refine r_iload_n C hl 1 rfl rfl dX1_putInOrder_23 ?_
      refine r_iald C P (k := 7) (i := t0) (n := 10) (fun _ _ => rfl) ht0 dX1_putInOrder_24 hf (fun hf => ?_)
      refine r_icmp_le C dX1_putInOrder_25 hf (fun hf => ?_) (fun hf => ?_)
      · exact j48 o_5 v2_4 _ _ _ P (lv_sub hl [0, 1, 2] rfl) hf
      · refine r_aload_n C hl 0 rfl rfl dX1_putInOrder_28 ?_
        refine gf_6_7 C P ht0 wd_77 dX1_putInOrder_29 ?_
        refine r_iload_n C hl 2 rfl rfl dX1_putInOrder_32 ?_
        refine r_aload_n C hl 0 rfl rfl dX1_putInOrder_33 ?_
        refine gf_6_7 C P ht0 wd_77 dX1_putInOrder_34 ?_
        refine r_iload_n C hl 2 rfl rfl dX1_putInOrder_37 ?_
        refine r_iconst C (v := 1) (by decide) dX1_putInOrder_38 ?_
        refine r_isub C dX1_putInOrder_39 ?_
        refine r_iald C P (k := 13) (i := t0) (n := 10) (fun _ _ => rfl) ht0 dX1_putInOrder_40 hf (fun hf => ?_)
        refine r_iast C P (k := 13) (i := t0) (n := 10) (fun _ _ => rfl) ht0 dX1_putInOrder_41 hf (fun o_6 H1 L1 P hf => ?_)
        refine r_iinc C (fun v2_7 => [(2, .int v2_7), (0, .ref (rA G 6 t0)), (1, .int v1)]) (w := -1) 2 hl rfl (by decide) (by decide) (fun _ => rfl) dX1_putInOrder_42 hf (fun v2_7 ls hl hf => ?_)
        refine r_goto C dX1_putInOrder_45 ?_
        exact ih o_6 v2_7 _ _ _ P (lv_sub hl [1, 2, 0] rfl) hf
set_option maxHeartbeats 4000000 in
set_option maxRecDepth 100000 in
theorem wX1_putInOrder {G : Gd} {p : Program} {l : Launch} {e : Env} {s : State} {m : MethodId} {args : Array Value} {below : List Frame} {meth : Method} {c : Code} {o : OM} {H : Heap} {L0 : List Loc} {ls : Array Slot} {r : Unit} {o9 : OM} {t0 : Nat} {v1 : Int32} (C : Cx G RX1 cX1_putInOrder 3 none p s m args meth c) (ht0 : okb 6 t0 = true) (P : Hp G o s H L0) (hl : lv_has ls 3 [(0, .ref (rA G 6 t0)), (1, .int v1)]) (hf : F_X1_putInOrder o t0 v1 = some (r, o9)) : W p l e rmX1_putInOrder s m args below meth c H L0 0 0 (Qm G none o9 rmX1_putInOrder below args s) (F0 m 0 ls []) := by
  unfold F_X1_putInOrder at hf
  refine r_iload_n C hl 1 rfl rfl dX1_putInOrder_0 ?_
  refine r_istore_n C [(2, .int v1), (0, .ref (rA G 6 t0)), (1, .int v1)] hl (by decide) rfl rfl dX1_putInOrder_1 (fun ls hl => ?_)
  refine r_jn (fun k48 : OM → Int32 → Option (Unit × OM) => ∀ (o_2 : OM) (v2_1 : Int32) H1 L1 ls, Hp G o_2 s H1 L1 → lv_has ls 3 [(0, .ref (rA G 6 t0)), (1, .int v1), (2, .int v2_1)] → k48 o_2 v2_1 = some (r, o9) → W p l e rmX1_putInOrder s m args below meth c H1 L1 0 0 (Qm G none o9 rmX1_putInOrder below args s) (F0 m 48 ls [])) hf ?_ (fun k48 j48 hf => ?_)
  · intro o_2 v2_1 H1 L1 ls  P hl hf
    refine r_aload_n C hl 0 rfl rfl dX1_putInOrder_48 ?_
    refine gf_6_7 C P ht0 wd_77 dX1_putInOrder_49 ?_
    refine r_iload_n C hl 2 rfl rfl dX1_putInOrder_52 ?_
    refine r_iload_n C hl 1 rfl rfl dX1_putInOrder_53 ?_
    refine r_iast C P (k := 13) (i := t0) (n := 10) (fun _ _ => rfl) ht0 dX1_putInOrder_54 hf (fun o_3 H1 L1 P hf => ?_)
    exact r_vret C P (rm := rmX1_putInOrder) ⟨rfl, rfl⟩ dX1_putInOrder_55 hf
  exact lX1_putInOrder_2 C ht0 j48 FU o v1 _ _ _ P (lv_sub hl [1, 2, 0] rfl) hf
theorem ctX1_putInOrder (l : Launch) (G : Gd) (o : OM) (t0 : Nat) (v1 : Int32) (ht0 : okb 6 t0 = true) {r : Unit} {o9 : OM} (hf : F_X1_putInOrder o t0 v1 = some (r, o9)) : Ct l yX1_putInOrder cX1_putInOrder 3 none rmX1_putInOrder G [.ref (rA G 6 t0), .int v1] o none o9 := ct_of (by decide +kernel) (Nat.le_of_ble_eq_true rfl) (fun p e s m below meth c ls C P hl => wX1_putInOrder C ht0 P hl hf)
theorem cf_X1_43 : CallF false RX1 43 yX1_hang cX1_hang 6 none 1 := ⟨wd_506, (by rw [if_neg (by decide)]; exact ⟨wd_508, wd_3⟩), wd_13, wd_509, by decide, by decide +kernel⟩
theorem cf_X1_47 : CallF false RX1 47 yX1_putInOrder cX1_putInOrder 3 none 1 := ⟨wd_510, (by rw [if_neg (by decide)]; exact ⟨wd_512, wd_4⟩), wd_13, wd_513, by decide, by decide +kernel⟩
theorem dX1_addLast_0 : Dc cX1_addLast 0 (.aload_n 0) 1 1 := ⟨by decide +kernel, rfl⟩
theorem dX1_addLast_1 : Dc cX1_addLast 1 (.getfield 33) 3 4 := ⟨by decide +kernel, rfl⟩
theorem dX1_addLast_4 : Dc cX1_addLast 4 (.bipush 10) 2 6 := ⟨by decide +kernel, rfl⟩
theorem dX1_addLast_6 : Dj cX1_addLast 6 (.if_icmp .lt 4) 3 9 (4) 10 := ⟨by decide +kernel, rfl, by decide⟩
theorem dX1_addLast_9 : Dc cX1_addLast 9 (.return_) 1 10 := ⟨by decide +kernel, rfl⟩
theorem dX1_addLast_10 : Dc cX1_addLast 10 (.aload_n 0) 1 11 := ⟨by decide +kernel, rfl⟩
theorem dX1_addLast_11 : Dc cX1_addLast 11 (.getfield 9) 3 14 := ⟨by decide +kernel, rfl⟩
theorem dX1_addLast_14 : Dc cX1_addLast 14 (.aload_n 0) 1 15 := ⟨by decide +kernel, rfl⟩
theorem dX1_addLast_15 : Dc cX1_addLast 15 (.getfield 33) 3 18 := ⟨by decide +kernel, rfl⟩
theorem dX1_addLast_18 : Dc cX1_addLast 18 (.iload_n 1) 1 19 := ⟨by decide +kernel, rfl⟩
theorem dX1_addLast_19 : Dc cX1_addLast 19 (.iastore) 1 20 := ⟨by decide +kernel, rfl⟩
theorem dX1_addLast_20 : Dc cX1_addLast 20 (.aload_n 0) 1 21 := ⟨by decide +kernel, rfl⟩
theorem dX1_addLast_21 : Dc cX1_addLast 21 (.getfield 15) 3 24 := ⟨by decide +kernel, rfl⟩
theorem dX1_addLast_24 : Dc cX1_addLast 24 (.aload_n 0) 1 25 := ⟨by decide +kernel, rfl⟩
theorem dX1_addLast_25 : Dc cX1_addLast 25 (.getfield 33) 3 28 := ⟨by decide +kernel, rfl⟩
theorem dX1_addLast_28 : Dc cX1_addLast 28 (.iload_n 2) 1 29 := ⟨by decide +kernel, rfl⟩
theorem dX1_addLast_29 : Dc cX1_addLast 29 (.iastore) 1 30 := ⟨by decide +kernel, rfl⟩
theorem dX1_addLast_30 : Dc cX1_addLast 30 (.aload_n 0) 1 31 := ⟨by decide +kernel, rfl⟩
theorem dX1_addLast_31 : Dc cX1_addLast 31 (.getfield 18) 3 34 := ⟨by decide +kernel, rfl⟩
theorem dX1_addLast_34 : Dc cX1_addLast 34 (.aload_n 0) 1 35 := ⟨by decide +kernel, rfl⟩
theorem dX1_addLast_35 : Dc cX1_addLast 35 (.getfield 33) 3 38 := ⟨by decide +kernel, rfl⟩
theorem dX1_addLast_38 : Dc cX1_addLast 38 (.iload_n 3) 1 39 := ⟨by decide +kernel, rfl⟩
theorem dX1_addLast_39 : Dc cX1_addLast 39 (.iastore) 1 40 := ⟨by decide +kernel, rfl⟩
theorem dX1_addLast_40 : Dc cX1_addLast 40 (.aload_n 0) 1 41 := ⟨by decide +kernel, rfl⟩
theorem dX1_addLast_41 : Dc cX1_addLast 41 (.aload_n 0) 1 42 := ⟨by decide +kernel, rfl⟩
theorem dX1_addLast_42 : Dc cX1_addLast 42 (.getfield 33) 3 45 := ⟨by decide +kernel, rfl⟩
theorem dX1_addLast_45 : Dc cX1_addLast 45 (.invokevirtual 43) 3 48 := ⟨by decide +kernel, rfl⟩
theorem dX1_addLast_48 : Dc cX1_addLast 48 (.aload_n 0) 1 49 := ⟨by decide +kernel, rfl⟩
theorem dX1_addLast_49 : Dc cX1_addLast 49 (.aload_n 0) 1 50 := ⟨by decide +kernel, rfl⟩
theorem dX1_addLast_50 : Dc cX1_addLast 50 (.getfield 33) 3 53 := ⟨by decide +kernel, rfl⟩
theorem dX1_addLast_53 : Dc cX1_addLast 53 (.invokevirtual 47) 3 56 := ⟨by decide +kernel, rfl⟩
theorem dX1_addLast_56 : Dc cX1_addLast 56 (.aload_n 0) 1 57 := ⟨by decide +kernel, rfl⟩
theorem dX1_addLast_57 : Dc cX1_addLast 57 (.dup) 1 58 := ⟨by decide +kernel, rfl⟩
theorem dX1_addLast_58 : Dc cX1_addLast 58 (.getfield 33) 3 61 := ⟨by decide +kernel, rfl⟩
theorem dX1_addLast_61 : Dc cX1_addLast 61 (.iconst 1) 1 62 := ⟨by decide +kernel, rfl⟩
theorem dX1_addLast_62 : Dc cX1_addLast 62 (.iadd) 1 63 := ⟨by decide +kernel, rfl⟩
theorem dX1_addLast_63 : Dc cX1_addLast 63 (.putfield 33) 3 66 := ⟨by decide +kernel, rfl⟩
theorem dX1_addLast_66 : Dc cX1_addLast 66 (.return_) 1 67 := ⟨by decide +kernel, rfl⟩
def F_X1_addLast (o : OM) (t0 : Nat) (v1 : Int32) (v2 : Int32) (v3 : Int32) : Option (Unit × OM) := if (rd o 6 t0 0) < ((10 : Int32)) then (grd (inB (rd o 6 t0 0) 10) (bd (wr o 7 t0 (rd o 6 t0 0).toNatClampNeg v1) (fun o_1 : OM => grd (inB (rd o_1 6 t0 0) 10) (bd (wr o_1 8 t0 (rd o_1 6 t0 0).toNatClampNeg v2) (fun o_2 : OM => grd (inB (rd o_2 6 t0 0) 10) (bd (wr o_2 9 t0 (rd o_2 6 t0 0).toNatClampNeg v3) (fun o_3 : OM => bn (F_X1_hang o_3 t0 (rd o_3 6 t0 0)) (fun _ o_5 => bn (F_X1_putInOrder o_5 t0 (rd o_5 6 t0 0)) (fun _ o_7 => bd (wr o_7 6 t0 0 ((rd o_7 6 t0 0) + ((1 : Int32)))) (fun o_8 : OM => some ((), o_8))))))))))) else (some ((), o))
abbrev rmX1_addLast : Room := { frames := 1, cells := 0, slots := 0, locals := 25 }
set_option maxHeartbeats 4000000 in
set_option maxRecDepth 100000 in
theorem wX1_addLast {G : Gd} {p : Program} {l : Launch} {e : Env} {s : State} {m : MethodId} {args : Array Value} {below : List Frame} {meth : Method} {c : Code} {o : OM} {H : Heap} {L0 : List Loc} {ls : Array Slot} {r : Unit} {o9 : OM} {t0 : Nat} {v1 : Int32} {v2 : Int32} {v3 : Int32} (C : Cx G RX1 cX1_addLast 4 none p s m args meth c) (ht0 : okb 6 t0 = true) (P : Hp G o s H L0) (hl : lv_has ls 4 [(0, .ref (rA G 6 t0)), (1, .int v1), (2, .int v2), (3, .int v3)]) (hf : F_X1_addLast o t0 v1 v2 v3 = some (r, o9)) : W p l e rmX1_addLast s m args below meth c H L0 0 0 (Qm G none o9 rmX1_addLast below args s) (F0 m 0 ls []) := by
  unfold F_X1_addLast at hf
  refine r_aload_n C hl 0 rfl rfl dX1_addLast_0 ?_
  refine gf_6_0 C P ht0 wd_62 dX1_addLast_1 ?_
  refine r_bipush C (v := 10) (by decide) dX1_addLast_4 ?_
  refine r_icmp_lt C dX1_addLast_6 hf (fun hf => ?_) (fun hf => ?_)
  · refine r_aload_n C hl 0 rfl rfl dX1_addLast_10 ?_
    refine gf_6_1 C P ht0 wd_66 dX1_addLast_11 ?_
    refine r_aload_n C hl 0 rfl rfl dX1_addLast_14 ?_
    refine gf_6_0 C P ht0 wd_62 dX1_addLast_15 ?_
    refine r_iload_n C hl 1 rfl rfl dX1_addLast_18 ?_
    refine r_iast C P (k := 7) (i := t0) (n := 10) (fun _ _ => rfl) ht0 dX1_addLast_19 hf (fun o_1 H1 L1 P hf => ?_)
    refine r_aload_n C hl 0 rfl rfl dX1_addLast_20 ?_
    refine gf_6_2 C P ht0 wd_68 dX1_addLast_21 ?_
    refine r_aload_n C hl 0 rfl rfl dX1_addLast_24 ?_
    refine gf_6_0 C P ht0 wd_62 dX1_addLast_25 ?_
    refine r_iload_n C hl 2 rfl rfl dX1_addLast_28 ?_
    refine r_iast C P (k := 8) (i := t0) (n := 10) (fun _ _ => rfl) ht0 dX1_addLast_29 hf (fun o_2 H1 L1 P hf => ?_)
    refine r_aload_n C hl 0 rfl rfl dX1_addLast_30 ?_
    refine gf_6_3 C P ht0 wd_70 dX1_addLast_31 ?_
    refine r_aload_n C hl 0 rfl rfl dX1_addLast_34 ?_
    refine gf_6_0 C P ht0 wd_62 dX1_addLast_35 ?_
    refine r_iload_n C hl 3 rfl rfl dX1_addLast_38 ?_
    refine r_iast C P (k := 9) (i := t0) (n := 10) (fun _ _ => rfl) ht0 dX1_addLast_39 hf (fun o_3 H1 L1 P hf => ?_)
    refine r_aload_n C hl 0 rfl rfl dX1_addLast_40 ?_
    refine r_aload_n C hl 0 rfl rfl dX1_addLast_41 ?_
    refine gf_6_0 C P ht0 wd_62 dX1_addLast_42 ?_
    refine r_cVv C P cf_X1_43 (rm := rmX1_hang) 6 t0 (fun _ _ => ⟨_, rfl⟩) rfl rfl ht0 [.int (rd o_3 6 t0 0)] [] hf (fun _ _ h => ctX1_hang l G o_3 t0 (rd o_3 6 t0 0) ht0 h) ⟨rfl, rfl⟩ ⟨Nat.le_of_ble_eq_true rfl, Nat.le_of_ble_eq_true rfl⟩ ⟨Nat.le_of_ble_eq_true rfl, Nat.le_of_ble_eq_true rfl⟩ rfl rfl hl.1 (Nat.le_of_ble_eq_true rfl) dX1_addLast_45 (fun _ o_5 H1 L1 P hf => ?_)
    refine r_aload_n C hl 0 rfl rfl dX1_addLast_48 ?_
    refine r_aload_n C hl 0 rfl rfl dX1_addLast_49 ?_
    refine gf_6_0 C P ht0 wd_62 dX1_addLast_50 ?_
    refine r_cVv C P cf_X1_47 (rm := rmX1_putInOrder) 6 t0 (fun _ _ => ⟨_, rfl⟩) rfl rfl ht0 [.int (rd o_5 6 t0 0)] [] hf (fun _ _ h => ctX1_putInOrder l G o_5 t0 (rd o_5 6 t0 0) ht0 h) ⟨rfl, rfl⟩ ⟨Nat.le_of_ble_eq_true rfl, Nat.le_of_ble_eq_true rfl⟩ ⟨Nat.le_of_ble_eq_true rfl, Nat.le_of_ble_eq_true rfl⟩ rfl rfl hl.1 (Nat.le_of_ble_eq_true rfl) dX1_addLast_53 (fun _ o_7 H1 L1 P hf => ?_)
    refine r_aload_n C hl 0 rfl rfl dX1_addLast_56 ?_
    refine r_dup C rfl dX1_addLast_57 ?_
    refine gf_6_0 C P ht0 wd_62 dX1_addLast_58 ?_
    refine r_iconst C (v := 1) (by decide) dX1_addLast_61 ?_
    refine r_iadd2 C dX1_addLast_62 ?_
    refine pf_6_0 C P ht0 wd_62 dX1_addLast_63 hf (fun o_8 H1 L1 P hf => ?_)
    exact r_vret C P (rm := rmX1_addLast) ⟨rfl, rfl⟩ dX1_addLast_66 hf
  · exact r_vret C P (rm := rmX1_addLast) ⟨rfl, rfl⟩ dX1_addLast_9 hf
theorem ctX1_addLast (l : Launch) (G : Gd) (o : OM) (t0 : Nat) (v1 : Int32) (v2 : Int32) (v3 : Int32) (ht0 : okb 6 t0 = true) {r : Unit} {o9 : OM} (hf : F_X1_addLast o t0 v1 v2 v3 = some (r, o9)) : Ct l yX1_addLast cX1_addLast 4 none rmX1_addLast G [.ref (rA G 6 t0), .int v1, .int v2, .int v3] o none o9 := ct_of (by decide +kernel) (Nat.le_of_ble_eq_true rfl) (fun p e s m below meth c ls C P hl => wX1_addLast C ht0 P hl hf)
theorem cf_X1_50 : CallF false RX1 50 yX1_indexOf cX1_indexOf 3 (some .int) 1 := ⟨wd_501, (by rw [if_neg (by decide)]; exact ⟨wd_481, wd_482⟩), wd_13, wd_483, by decide, by decide +kernel⟩
theorem cf_X1_54 : CallF false RX1 54 yX1_addLast cX1_addLast 4 none 3 := ⟨wd_502, (by rw [if_neg (by decide)]; exact ⟨wd_503, wd_504⟩), wd_13, wd_505, by decide, by decide +kernel⟩
theorem dX1_dropDegree_0 : Dc cX1_dropDegree 0 (.aload_n 0) 1 1 := ⟨by decide +kernel, rfl⟩
theorem dX1_dropDegree_1 : Dc cX1_dropDegree 1 (.iload_n 1) 1 2 := ⟨by decide +kernel, rfl⟩
theorem dX1_dropDegree_2 : Dc cX1_dropDegree 2 (.invokevirtual 50) 3 5 := ⟨by decide +kernel, rfl⟩
theorem dX1_dropDegree_5 : Dc cX1_dropDegree 5 (.istore_n 2) 1 6 := ⟨by decide +kernel, rfl⟩
theorem dX1_dropDegree_6 : Dc cX1_dropDegree 6 (.iload_n 2) 1 7 := ⟨by decide +kernel, rfl⟩
theorem dX1_dropDegree_7 : Dc cX1_dropDegree 7 (.iconst (-1)) 1 8 := ⟨by decide +kernel, rfl⟩
theorem dX1_dropDegree_8 : Dj cX1_dropDegree 8 (.if_icmp .ne 5) 3 11 (5) 13 := ⟨by decide +kernel, rfl, by decide⟩
theorem dX1_dropDegree_11 : Dc cX1_dropDegree 11 (.iconst 0) 1 12 := ⟨by decide +kernel, rfl⟩
theorem dX1_dropDegree_12 : Dc cX1_dropDegree 12 (.ireturn) 1 13 := ⟨by decide +kernel, rfl⟩
theorem dX1_dropDegree_13 : Dc cX1_dropDegree 13 (.aload_n 0) 1 14 := ⟨by decide +kernel, rfl⟩
theorem dX1_dropDegree_14 : Dc cX1_dropDegree 14 (.getfield 33) 3 17 := ⟨by decide +kernel, rfl⟩
theorem dX1_dropDegree_17 : Dc cX1_dropDegree 17 (.iconst 1) 1 18 := ⟨by decide +kernel, rfl⟩
theorem dX1_dropDegree_18 : Dc cX1_dropDegree 18 (.isub) 1 19 := ⟨by decide +kernel, rfl⟩
theorem dX1_dropDegree_19 : Dc cX1_dropDegree 19 (.istore_n 3) 1 20 := ⟨by decide +kernel, rfl⟩
theorem dX1_dropDegree_20 : Dc cX1_dropDegree 20 (.aload_n 0) 1 21 := ⟨by decide +kernel, rfl⟩
theorem dX1_dropDegree_21 : Dc cX1_dropDegree 21 (.iconst 0) 1 22 := ⟨by decide +kernel, rfl⟩
theorem dX1_dropDegree_22 : Dc cX1_dropDegree 22 (.putfield 33) 3 25 := ⟨by decide +kernel, rfl⟩
theorem dX1_dropDegree_25 : Dc cX1_dropDegree 25 (.iconst 0) 1 26 := ⟨by decide +kernel, rfl⟩
theorem dX1_dropDegree_26 : Dc cX1_dropDegree 26 (.istore 4) 2 28 := ⟨by decide +kernel, rfl⟩
theorem dX1_dropDegree_28 : Dc cX1_dropDegree 28 (.iload 4) 2 30 := ⟨by decide +kernel, rfl⟩
theorem dX1_dropDegree_30 : Dc cX1_dropDegree 30 (.iload_n 3) 1 31 := ⟨by decide +kernel, rfl⟩
theorem dX1_dropDegree_31 : Dj cX1_dropDegree 31 (.if_icmp .gt 40) 3 34 (40) 71 := ⟨by decide +kernel, rfl, by decide⟩
theorem dX1_dropDegree_34 : Dc cX1_dropDegree 34 (.iload 4) 2 36 := ⟨by decide +kernel, rfl⟩
theorem dX1_dropDegree_36 : Dc cX1_dropDegree 36 (.iload_n 2) 1 37 := ⟨by decide +kernel, rfl⟩
theorem dX1_dropDegree_37 : Dj cX1_dropDegree 37 (.if_icmp .eq 28) 3 40 (28) 65 := ⟨by decide +kernel, rfl, by decide⟩
theorem dX1_dropDegree_40 : Dc cX1_dropDegree 40 (.aload_n 0) 1 41 := ⟨by decide +kernel, rfl⟩
theorem dX1_dropDegree_41 : Dc cX1_dropDegree 41 (.aload_n 0) 1 42 := ⟨by decide +kernel, rfl⟩
theorem dX1_dropDegree_42 : Dc cX1_dropDegree 42 (.getfield 9) 3 45 := ⟨by decide +kernel, rfl⟩
theorem dX1_dropDegree_45 : Dc cX1_dropDegree 45 (.iload 4) 2 47 := ⟨by decide +kernel, rfl⟩
theorem dX1_dropDegree_47 : Dc cX1_dropDegree 47 (.iaload) 1 48 := ⟨by decide +kernel, rfl⟩
theorem dX1_dropDegree_48 : Dc cX1_dropDegree 48 (.aload_n 0) 1 49 := ⟨by decide +kernel, rfl⟩
theorem dX1_dropDegree_49 : Dc cX1_dropDegree 49 (.getfield 15) 3 52 := ⟨by decide +kernel, rfl⟩
theorem dX1_dropDegree_52 : Dc cX1_dropDegree 52 (.iload 4) 2 54 := ⟨by decide +kernel, rfl⟩
theorem dX1_dropDegree_54 : Dc cX1_dropDegree 54 (.iaload) 1 55 := ⟨by decide +kernel, rfl⟩
theorem dX1_dropDegree_55 : Dc cX1_dropDegree 55 (.aload_n 0) 1 56 := ⟨by decide +kernel, rfl⟩
theorem dX1_dropDegree_56 : Dc cX1_dropDegree 56 (.getfield 18) 3 59 := ⟨by decide +kernel, rfl⟩
theorem dX1_dropDegree_59 : Dc cX1_dropDegree 59 (.iload 4) 2 61 := ⟨by decide +kernel, rfl⟩
theorem dX1_dropDegree_61 : Dc cX1_dropDegree 61 (.iaload) 1 62 := ⟨by decide +kernel, rfl⟩
theorem dX1_dropDegree_62 : Dc cX1_dropDegree 62 (.invokevirtual 54) 3 65 := ⟨by decide +kernel, rfl⟩
theorem dX1_dropDegree_65 : Dc cX1_dropDegree 65 (.iinc 4 1) 3 68 := ⟨by decide +kernel, rfl⟩
theorem dX1_dropDegree_68 : Dj cX1_dropDegree 68 (.goto (-40)) 3 71 (-40) 28 := ⟨by decide +kernel, rfl, by decide⟩
theorem dX1_dropDegree_71 : Dc cX1_dropDegree 71 (.iconst 1) 1 72 := ⟨by decide +kernel, rfl⟩
theorem dX1_dropDegree_72 : Dc cX1_dropDegree 72 (.ireturn) 1 73 := ⟨by decide +kernel, rfl⟩
def LX1_dropDegree_28 (k71 : OM → Option (Int32 × OM)) (v3_2 : Int32) (r_1 : Int32) (t0 : Nat) : Nat → OM → Int32 → Option (Int32 × OM)
  | 0 => fun _ _ => none
  | n + 1 => fun o_6 v4_5 => if v3_2 < v4_5 then (k71 o_6) else (bd (fun (o_7 : OM) => bd (v4_5 + (1 : Int32)) (fun v4_8 : Int32 => (LX1_dropDegree_28 k71 v3_2 r_1 t0 n) o_7 v4_8)) (fun k65 => if v4_5 = r_1 then (k65 o_6) else (grd (inB v4_5 10) (grd (inB v4_5 10) (grd (inB v4_5 10) (bn (F_X1_addLast o_6 t0 (rd o_6 7 t0 v4_5.toNatClampNeg) (rd o_6 8 t0 v4_5.toNatClampNeg) (rd o_6 9 t0 v4_5.toNatClampNeg)) (fun _ o_10 => k65 o_10)))))))
def F_X1_dropDegree (o : OM) (t0 : Nat) (v1 : Int32) : Option (Int32 × OM) := bq (F_X1_indexOf o t0 v1) (fun r_1 => if r_1 = ((-1 : Int32)) then (grd (isZ ((0 : Int32))) (some (((0 : Int32)), o))) else (bd ((rd o 6 t0 0) - ((1 : Int32))) (fun v3_2 : Int32 => bd (wr o 6 t0 0 ((0 : Int32))) (fun o_3 : OM => bd (fun (o_4 : OM) => grd (isZ ((1 : Int32))) (some (((1 : Int32)), o_4))) (fun k71 => LX1_dropDegree_28 k71 v3_2 r_1 t0 FU o_3 ((0 : Int32)))))))
abbrev rmX1_dropDegree : Room := { frames := 2, cells := 0, slots := 0, locals := 48 }
set_option maxHeartbeats 4000000 in
set_option maxRecDepth 100000 in
theorem lX1_dropDegree_28 {G : Gd} {p : Program} {l : Launch} {e : Env} {s : State} {m : MethodId} {args : Array Value} {below : List Frame} {meth : Method} {c : Code} {r : Int32} {o9 : OM} {v3_2 : Int32} {r_1 : Int32} {t0 : Nat} (C : Cx G RX1 cX1_dropDegree 5 (some .boolean) p s m args meth c) (ht0 : okb 6 t0 = true) {k71 : OM → Option (Int32 × OM)} (j71 : ∀ (o_4 : OM) H1 L1 ls, Hp G o_4 s H1 L1 → lv_has ls 5 [] → k71 o_4 = some (r, o9) → W p l e rmX1_dropDegree s m args below meth c H1 L1 0 0 (Qm G (some (.int r)) o9 rmX1_dropDegree below args s) (F0 m 71 ls [])) : ∀ (n : Nat) (o_6 : OM) (v4_5 : Int32) H1 L1 ls, Hp G o_6 s H1 L1 → lv_has ls 5 [(0, .ref (rA G 6 t0)), (2, .int r_1), (3, .int v3_2), (4, .int v4_5)] → LX1_dropDegree_28 k71 v3_2 r_1 t0 n o_6 v4_5 = some (r, o9) → W p l e rmX1_dropDegree s m args below meth c H1 L1 0 0 (Qm G (some (.int r)) o9 rmX1_dropDegree below args s) (F0 m 28 ls []) := by
  intro n
  induction n with
  | zero =>
    intro o_6 v4_5 H1 L1 ls P hl hf
    exact nomatch hf
  | succ n ih =>
    intro o_6 v4_5 H1 L1 ls P hl hf
    rw [LX1_dropDegree_28.eq_2] at hf
    refine r_iload C hl 3 rfl dX1_dropDegree_28 ?_
    refine r_iload_n C hl 2 rfl rfl dX1_dropDegree_30 ?_
    refine r_icmp_gt C dX1_dropDegree_31 hf (fun hf => ?_) (fun hf => ?_)
    · exact j71 o_6 _ _ _ P (lv_sub hl [] rfl) hf
    · refine r_iload C hl 3 rfl dX1_dropDegree_34 ?_
      refine r_iload_n C hl 1 rfl rfl dX1_dropDegree_36 ?_
      refine r_jn (fun k65 : OM → Option (Int32 × OM) => ∀ (o_7 : OM) H1 L1 ls, Hp G o_7 s H1 L1 → lv_has ls 5 [(0, .ref (rA G 6 t0)), (2, .int r_1), (3, .int v3_2), (4, .int v4_5)] → k65 o_7 = some (r, o9) → W p l e rmX1_dropDegree s m args below meth c H1 L1 0 0 (Qm G (some (.int r)) o9 rmX1_dropDegree below args s) (F0 m 65 ls [])) hf ?_ (fun k65 j65 hf => ?_)
      · intro o_7 H1 L1 ls  P hl hf
        refine r_iinc C (fun v4_8 => [(4, .int v4_8), (0, .ref (rA G 6 t0)), (2, .int r_1), (3, .int v3_2)]) (w := 1) 3 hl rfl (by decide) (by decide) (fun _ => rfl) dX1_dropDegree_65 hf (fun v4_8 ls hl hf => ?_)
        refine r_goto C dX1_dropDegree_68 ?_
        exact ih o_7 v4_8 _ _ _ P (lv_sub hl [1, 2, 3, 0] rfl) hf
      refine r_icmp_eq C dX1_dropDegree_37 hf (fun hf => ?_) (fun hf => ?_)
      · exact j65 o_6 _ _ _ P (lv_sub hl [0, 1, 2, 3] rfl) hf
      · refine r_aload_n C hl 0 rfl rfl dX1_dropDegree_40 ?_
        refine r_aload_n C hl 0 rfl rfl dX1_dropDegree_41 ?_
        refine gf_6_1 C P ht0 wd_66 dX1_dropDegree_42 ?_
        refine r_iload C hl 3 rfl dX1_dropDegree_45 ?_
        refine r_iald C P (k := 7) (i := t0) (n := 10) (fun _ _ => rfl) ht0 dX1_dropDegree_47 hf (fun hf => ?_)
        refine r_aload_n C hl 0 rfl rfl dX1_dropDegree_48 ?_
        refine gf_6_2 C P ht0 wd_68 dX1_dropDegree_49 ?_
        refine r_iload C hl 3 rfl dX1_dropDegree_52 ?_
        refine r_iald C P (k := 8) (i := t0) (n := 10) (fun _ _ => rfl) ht0 dX1_dropDegree_54 hf (fun hf => ?_)
        refine r_aload_n C hl 0 rfl rfl dX1_dropDegree_55 ?_
        refine gf_6_3 C P ht0 wd_70 dX1_dropDegree_56 ?_
        refine r_iload C hl 3 rfl dX1_dropDegree_59 ?_
        refine r_iald C P (k := 9) (i := t0) (n := 10) (fun _ _ => rfl) ht0 dX1_dropDegree_61 hf (fun hf => ?_)
        refine r_cVv C P cf_X1_54 (rm := rmX1_addLast) 6 t0 (fun _ _ => ⟨_, rfl⟩) rfl rfl ht0 [.int (rd o_6 7 t0 v4_5.toNatClampNeg), .int (rd o_6 8 t0 v4_5.toNatClampNeg), .int (rd o_6 9 t0 v4_5.toNatClampNeg)] [] hf (fun _ _ h => ctX1_addLast l G o_6 t0 (rd o_6 7 t0 v4_5.toNatClampNeg) (rd o_6 8 t0 v4_5.toNatClampNeg) (rd o_6 9 t0 v4_5.toNatClampNeg) ht0 h) ⟨rfl, rfl⟩ ⟨Nat.le_of_ble_eq_true rfl, Nat.le_of_ble_eq_true rfl⟩ ⟨Nat.le_of_ble_eq_true rfl, Nat.le_of_ble_eq_true rfl⟩ rfl rfl hl.1 (Nat.le_of_ble_eq_true rfl) dX1_dropDegree_62 (fun _ o_10 H1 L1 P hf => ?_)
        exact j65 o_10 _ _ _ P (lv_sub hl [0, 1, 2, 3] rfl) hf
set_option maxHeartbeats 4000000 in
set_option maxRecDepth 100000 in
theorem wX1_dropDegree {G : Gd} {p : Program} {l : Launch} {e : Env} {s : State} {m : MethodId} {args : Array Value} {below : List Frame} {meth : Method} {c : Code} {o : OM} {H : Heap} {L0 : List Loc} {ls : Array Slot} {r : Int32} {o9 : OM} {t0 : Nat} {v1 : Int32} (C : Cx G RX1 cX1_dropDegree 5 (some .boolean) p s m args meth c) (ht0 : okb 6 t0 = true) (P : Hp G o s H L0) (hl : lv_has ls 5 [(0, .ref (rA G 6 t0)), (1, .int v1)]) (hf : F_X1_dropDegree o t0 v1 = some (r, o9)) : W p l e rmX1_dropDegree s m args below meth c H L0 0 0 (Qm G (some (.int r)) o9 rmX1_dropDegree below args s) (F0 m 0 ls []) := by
  unfold F_X1_dropDegree at hf
  refine r_aload_n C hl 0 rfl rfl dX1_dropDegree_0 ?_
  refine r_iload_n C hl 1 rfl rfl dX1_dropDegree_1 ?_
  refine r_qVi C P cf_X1_50 (rm := rmX1_indexOf) 6 t0 (fun _ _ => ⟨_, rfl⟩) rfl rfl ht0 [.int v1] [] hf (fun _ h => ctX1_indexOf l G o t0 v1 ht0 h) ⟨rfl, rfl⟩ ⟨Nat.le_of_ble_eq_true rfl, Nat.le_of_ble_eq_true rfl⟩ ⟨Nat.le_of_ble_eq_true rfl, Nat.le_of_ble_eq_true rfl⟩ rfl rfl hl.1 (Nat.le_of_ble_eq_true rfl) dX1_dropDegree_2 (fun r_1 H1 L1 P hf => ?_)
  refine r_istore_n C [(2, .int r_1), (0, .ref (rA G 6 t0)), (1, .int v1)] hl (by decide) rfl rfl dX1_dropDegree_5 (fun ls hl => ?_)
  refine r_iload_n C hl 0 rfl rfl dX1_dropDegree_6 ?_
  refine r_iconst C (v := -1) (by decide) dX1_dropDegree_7 ?_
  refine r_icmp_ne C dX1_dropDegree_8 hf (fun hf => ?_) (fun hf => ?_)
  · refine r_aload_n C hl 1 rfl rfl dX1_dropDegree_13 ?_
    refine gf_6_0 C P ht0 wd_62 dX1_dropDegree_14 ?_
    refine r_iconst C (v := 1) (by decide) dX1_dropDegree_17 ?_
    refine r_isub C dX1_dropDegree_18 ?_
    refine r_bdi hf (fun v3_2 hf => ?_)
    refine r_istore_n C [(3, .int v3_2), (2, .int r_1), (0, .ref (rA G 6 t0)), (1, .int v1)] hl (by decide) rfl rfl dX1_dropDegree_19 (fun ls hl => ?_)
    refine r_aload_n C hl 2 rfl rfl dX1_dropDegree_20 ?_
    refine r_iconst C (v := 0) (by decide) dX1_dropDegree_21 ?_
    refine pf_6_0 C P ht0 wd_62 dX1_dropDegree_22 hf (fun o_3 H1 L1 P hf => ?_)
    refine r_iconst C (v := 0) (by decide) dX1_dropDegree_25 ?_
    refine r_istore C [(4, .int ((0 : Int32))), (3, .int v3_2), (2, .int r_1), (0, .ref (rA G 6 t0)), (1, .int v1)] hl (by decide) rfl dX1_dropDegree_26 (fun ls hl => ?_)
    refine r_jn (fun k71 : OM → Option (Int32 × OM) => ∀ (o_4 : OM) H1 L1 ls, Hp G o_4 s H1 L1 → lv_has ls 5 [] → k71 o_4 = some (r, o9) → W p l e rmX1_dropDegree s m args below meth c H1 L1 0 0 (Qm G (some (.int r)) o9 rmX1_dropDegree below args s) (F0 m 71 ls [])) hf ?_ (fun k71 j71 hf => ?_)
    · intro o_4 H1 L1 ls  P hl hf
      refine r_iconst C (v := 1) (by decide) dX1_dropDegree_71 ?_
      exact r_zret C P (rm := rmX1_dropDegree) ⟨rfl, rfl⟩ dX1_dropDegree_72 hf
    exact lX1_dropDegree_28 C ht0 j71 FU o_3 ((0 : Int32)) _ _ _ P (lv_sub hl [3, 2, 1, 0] rfl) hf
  · refine r_iconst C (v := 0) (by decide) dX1_dropDegree_11 ?_
    exact r_zret C P (rm := rmX1_dropDegree) ⟨rfl, rfl⟩ dX1_dropDegree_12 hf
theorem ctX1_dropDegree (l : Launch) (G : Gd) (o : OM) (t0 : Nat) (v1 : Int32) (ht0 : okb 6 t0 = true) {r : Int32} {o9 : OM} (hf : F_X1_dropDegree o t0 v1 = some (r, o9)) : Ct l yX1_dropDegree cX1_dropDegree 5 (some .boolean) rmX1_dropDegree G [.ref (rA G 6 t0), .int v1] o (some (.int r)) o9 := ct_of (by decide +kernel) (Nat.le_of_ble_eq_true rfl) (fun p e s m below meth c ls C P hl => wX1_dropDegree C ht0 P hl hf)
theorem dJ9_max_7cf53_0 : Dc cJ9_max_7cf53 0 (.iload_n 0) 1 1 := ⟨by decide +kernel, rfl⟩
theorem dJ9_max_7cf53_1 : Dc cJ9_max_7cf53 1 (.iload_n 1) 1 2 := ⟨by decide +kernel, rfl⟩
theorem dJ9_max_7cf53_2 : Dj cJ9_max_7cf53 2 (.if_icmp .lt 7) 3 5 (7) 9 := ⟨by decide +kernel, rfl, by decide⟩
theorem dJ9_max_7cf53_5 : Dc cJ9_max_7cf53 5 (.iload_n 0) 1 6 := ⟨by decide +kernel, rfl⟩
theorem dJ9_max_7cf53_6 : Dj cJ9_max_7cf53 6 (.goto 4) 3 9 (4) 10 := ⟨by decide +kernel, rfl, by decide⟩
theorem dJ9_max_7cf53_9 : Dc cJ9_max_7cf53 9 (.iload_n 1) 1 10 := ⟨by decide +kernel, rfl⟩
theorem dJ9_max_7cf53_10 : Dc cJ9_max_7cf53 10 (.ireturn) 1 11 := ⟨by decide +kernel, rfl⟩
def F_J9_max_7cf53 (o : OM) (v0 : Int32) (v1 : Int32) : Option Int32 := bd (fun (s_1 : Int32) => some s_1) (fun k10 => if v0 < v1 then (k10 v1) else (k10 v0))
abbrev rmJ9_max_7cf53 : Room := { frames := 0, cells := 0, slots := 0, locals := 0 }
set_option maxHeartbeats 4000000 in
set_option maxRecDepth 100000 in
theorem wJ9_max_7cf53 {G : Gd} {p : Program} {l : Launch} {e : Env} {s : State} {m : MethodId} {args : Array Value} {below : List Frame} {meth : Method} {c : Code} {o : OM} {H : Heap} {L0 : List Loc} {ls : Array Slot} {r : Int32} {v0 : Int32} {v1 : Int32} (C : Cx G RJ9 cJ9_max_7cf53 2 (some .int) p s m args meth c)  (P : Hp G o s H L0) (hl : lv_has ls 2 [(0, .int v0), (1, .int v1)]) (hf : F_J9_max_7cf53 o v0 v1 = some r) : W p l e rmJ9_max_7cf53 s m args below meth c H L0 0 0 (Qm G (some (.int r)) o rmJ9_max_7cf53 below args s) (F0 m 0 ls []) := by
  unfold F_J9_max_7cf53 at hf
  refine r_iload_n C hl 0 rfl rfl dJ9_max_7cf53_0 ?_
  refine r_iload_n C hl 1 rfl rfl dJ9_max_7cf53_1 ?_
  refine r_jn (fun k10 : Int32 → Option Int32 => ∀ (s_1 : Int32) H1 L1 ls, Hp G o s H1 L1 → lv_has ls 2 [] → k10 s_1 = some r → W p l e rmJ9_max_7cf53 s m args below meth c H1 L1 0 0 (Qm G (some (.int r)) o rmJ9_max_7cf53 below args s) (F0 m 10 ls [.int s_1])) hf ?_ (fun k10 j10 hf => ?_)
  · intro s_1 H1 L1 ls  P hl hf
    exact q_iret C P (rm := rmJ9_max_7cf53) ⟨rfl, rfl⟩ dJ9_max_7cf53_10 hf
  refine r_icmp_lt C dJ9_max_7cf53_2 hf (fun hf => ?_) (fun hf => ?_)
  · refine r_iload_n C hl 1 rfl rfl dJ9_max_7cf53_9 ?_
    exact j10 v1 _ _ _ P (lv_sub hl [] rfl) hf
  · refine r_iload_n C hl 0 rfl rfl dJ9_max_7cf53_5 ?_
    refine r_goto C dJ9_max_7cf53_6 ?_
    exact j10 v0 _ _ _ P (lv_sub hl [] rfl) hf
theorem ctJ9_max_7cf53 (l : Launch) (G : Gd) (o : OM) (v0 : Int32) (v1 : Int32)  {r : Int32} (hf : F_J9_max_7cf53 o v0 v1 = some r) : Ct l yJ9_max_7cf53 cJ9_max_7cf53 2 (some .int) rmJ9_max_7cf53 G [.int v0, .int v1] o (some (.int r)) o := ct_of (by decide +kernel) (Nat.le_of_ble_eq_true rfl) (fun p e s m below meth c ls C P hl => wJ9_max_7cf53 C  P hl hf)
theorem cf_X1_58 : CallF true RX1 58 yJ9_max_7cf53 cJ9_max_7cf53 2 (some .int) 2 := ⟨wd_578, (by rw [if_pos rfl]; exact wd_579), wd_23, wd_580, by decide, by decide +kernel⟩
theorem dX1_treeDepth_0 : Dc cX1_treeDepth 0 (.iconst 0) 1 1 := ⟨by decide +kernel, rfl⟩
theorem dX1_treeDepth_1 : Dc cX1_treeDepth 1 (.istore_n 1) 1 2 := ⟨by decide +kernel, rfl⟩
theorem dX1_treeDepth_2 : Dc cX1_treeDepth 2 (.iconst 0) 1 3 := ⟨by decide +kernel, rfl⟩
theorem dX1_treeDepth_3 : Dc cX1_treeDepth 3 (.istore_n 2) 1 4 := ⟨by decide +kernel, rfl⟩
theorem dX1_treeDepth_4 : Dc cX1_treeDepth 4 (.iload_n 2) 1 5 := ⟨by decide +kernel, rfl⟩
theorem dX1_treeDepth_5 : Dc cX1_treeDepth 5 (.aload_n 0) 1 6 := ⟨by decide +kernel, rfl⟩
theorem dX1_treeDepth_6 : Dc cX1_treeDepth 6 (.getfield 33) 3 9 := ⟨by decide +kernel, rfl⟩
theorem dX1_treeDepth_9 : Dj cX1_treeDepth 9 (.if_icmp .ge 20) 3 12 (20) 29 := ⟨by decide +kernel, rfl, by decide⟩
theorem dX1_treeDepth_12 : Dc cX1_treeDepth 12 (.iload_n 1) 1 13 := ⟨by decide +kernel, rfl⟩
theorem dX1_treeDepth_13 : Dc cX1_treeDepth 13 (.aload_n 0) 1 14 := ⟨by decide +kernel, rfl⟩
theorem dX1_treeDepth_14 : Dc cX1_treeDepth 14 (.getfield 27) 3 17 := ⟨by decide +kernel, rfl⟩
theorem dX1_treeDepth_17 : Dc cX1_treeDepth 17 (.iload_n 2) 1 18 := ⟨by decide +kernel, rfl⟩
theorem dX1_treeDepth_18 : Dc cX1_treeDepth 18 (.iaload) 1 19 := ⟨by decide +kernel, rfl⟩
theorem dX1_treeDepth_19 : Dc cX1_treeDepth 19 (.invokestatic 58) 3 22 := ⟨by decide +kernel, rfl⟩
theorem dX1_treeDepth_22 : Dc cX1_treeDepth 22 (.istore_n 1) 1 23 := ⟨by decide +kernel, rfl⟩
theorem dX1_treeDepth_23 : Dc cX1_treeDepth 23 (.iinc 2 1) 3 26 := ⟨by decide +kernel, rfl⟩
theorem dX1_treeDepth_26 : Dj cX1_treeDepth 26 (.goto (-22)) 3 29 (-22) 4 := ⟨by decide +kernel, rfl, by decide⟩
theorem dX1_treeDepth_29 : Dc cX1_treeDepth 29 (.iload_n 1) 1 30 := ⟨by decide +kernel, rfl⟩
theorem dX1_treeDepth_30 : Dc cX1_treeDepth 30 (.ireturn) 1 31 := ⟨by decide +kernel, rfl⟩
def LX1_treeDepth_4 (k29 : Int32 → Option Int32) (o : OM) (t0 : Nat) : Nat → Int32 → Int32 → Option Int32
  | 0 => fun _ _ => none
  | n + 1 => fun v1_2 v2_3 => if (rd o 6 t0 0) ≤ v2_3 then (k29 v1_2) else (grd (inB v2_3 10) (bq (F_J9_max_7cf53 o v1_2 (rd o 12 t0 v2_3.toNatClampNeg)) (fun r_4 => bd (v2_3 + (1 : Int32)) (fun v2_5 : Int32 => (LX1_treeDepth_4 k29 o t0 n) r_4 v2_5))))
def F_X1_treeDepth (o : OM) (t0 : Nat) : Option Int32 := bd (fun (v1_1 : Int32) => some v1_1) (fun k29 => LX1_treeDepth_4 k29 o t0 FU ((0 : Int32)) ((0 : Int32)))
abbrev rmX1_treeDepth : Room := { frames := 1, cells := 0, slots := 0, locals := 21 }
set_option maxHeartbeats 4000000 in
set_option maxRecDepth 100000 in
theorem lX1_treeDepth_4 {G : Gd} {p : Program} {l : Launch} {e : Env} {s : State} {m : MethodId} {args : Array Value} {below : List Frame} {meth : Method} {c : Code} {r : Int32} {o : OM} {t0 : Nat} (C : Cx G RX1 cX1_treeDepth 3 (some .int) p s m args meth c) (ht0 : okb 6 t0 = true) {k29 : Int32 → Option Int32} (j29 : ∀ (v1_1 : Int32) H1 L1 ls, Hp G o s H1 L1 → lv_has ls 3 [(1, .int v1_1)] → k29 v1_1 = some r → W p l e rmX1_treeDepth s m args below meth c H1 L1 0 0 (Qm G (some (.int r)) o rmX1_treeDepth below args s) (F0 m 29 ls [])) : ∀ (n : Nat) (v1_2 : Int32) (v2_3 : Int32) H1 L1 ls, Hp G o s H1 L1 → lv_has ls 3 [(0, .ref (rA G 6 t0)), (1, .int v1_2), (2, .int v2_3)] → LX1_treeDepth_4 k29 o t0 n v1_2 v2_3 = some r → W p l e rmX1_treeDepth s m args below meth c H1 L1 0 0 (Qm G (some (.int r)) o rmX1_treeDepth below args s) (F0 m 4 ls []) := by
  intro n
  induction n with
  | zero =>
    intro v1_2 v2_3 H1 L1 ls P hl hf
    exact nomatch hf
  | succ n ih =>
    intro v1_2 v2_3 H1 L1 ls P hl hf
    rw [LX1_treeDepth_4.eq_2] at hf
    refine r_iload_n C hl 2 rfl rfl dX1_treeDepth_4 ?_
    refine r_aload_n C hl 0 rfl rfl dX1_treeDepth_5 ?_
    refine gf_6_0 C P ht0 wd_62 dX1_treeDepth_6 ?_
    refine r_icmp_ge C dX1_treeDepth_9 hf (fun hf => ?_) (fun hf => ?_)
    · exact j29 v1_2 _ _ _ P (lv_sub hl [1] rfl) hf
    · refine r_iload_n C hl 1 rfl rfl dX1_treeDepth_12 ?_
      refine r_aload_n C hl 0 rfl rfl dX1_treeDepth_13 ?_
      refine gf_6_6 C P ht0 wd_75 dX1_treeDepth_14 ?_
      refine r_iload_n C hl 2 rfl rfl dX1_treeDepth_17 ?_
      refine r_iald C P (k := 12) (i := t0) (n := 10) (fun _ _ => rfl) ht0 dX1_treeDepth_18 hf (fun hf => ?_)
      refine r_qSi C P cf_X1_58 (rm := rmJ9_max_7cf53) [.int v1_2, .int (rd o 12 t0 v2_3.toNatClampNeg)] [] hf (fun _ h => ctJ9_max_7cf53 l G o v1_2 (rd o 12 t0 v2_3.toNatClampNeg) h) ⟨rfl, rfl⟩ ⟨Nat.le_of_ble_eq_true rfl, Nat.le_of_ble_eq_true rfl⟩ ⟨Nat.le_of_ble_eq_true rfl, Nat.le_of_ble_eq_true rfl⟩ rfl rfl hl.1 (Nat.le_of_ble_eq_true rfl) dX1_treeDepth_19 (fun r_4 H1 L1 P hf => ?_)
      refine r_istore_n C [(1, .int r_4), (0, .ref (rA G 6 t0)), (2, .int v2_3)] hl (by decide) rfl rfl dX1_treeDepth_22 (fun ls hl => ?_)
      refine r_iinc C (fun v2_5 => [(2, .int v2_5), (1, .int r_4), (0, .ref (rA G 6 t0))]) (w := 1) 2 hl rfl (by decide) (by decide) (fun _ => rfl) dX1_treeDepth_23 hf (fun v2_5 ls hl hf => ?_)
      refine r_goto C dX1_treeDepth_26 ?_
      exact ih r_4 v2_5 _ _ _ P (lv_sub hl [2, 1, 0] rfl) hf
set_option maxHeartbeats 4000000 in
set_option maxRecDepth 100000 in
theorem wX1_treeDepth {G : Gd} {p : Program} {l : Launch} {e : Env} {s : State} {m : MethodId} {args : Array Value} {below : List Frame} {meth : Method} {c : Code} {o : OM} {H : Heap} {L0 : List Loc} {ls : Array Slot} {r : Int32} {t0 : Nat} (C : Cx G RX1 cX1_treeDepth 3 (some .int) p s m args meth c) (ht0 : okb 6 t0 = true) (P : Hp G o s H L0) (hl : lv_has ls 3 [(0, .ref (rA G 6 t0))]) (hf : F_X1_treeDepth o t0 = some r) : W p l e rmX1_treeDepth s m args below meth c H L0 0 0 (Qm G (some (.int r)) o rmX1_treeDepth below args s) (F0 m 0 ls []) := by
  unfold F_X1_treeDepth at hf
  refine r_iconst C (v := 0) (by decide) dX1_treeDepth_0 ?_
  refine r_istore_n C [(1, .int ((0 : Int32))), (0, .ref (rA G 6 t0))] hl (by decide) rfl rfl dX1_treeDepth_1 (fun ls hl => ?_)
  refine r_iconst C (v := 0) (by decide) dX1_treeDepth_2 ?_
  refine r_istore_n C [(2, .int ((0 : Int32))), (1, .int ((0 : Int32))), (0, .ref (rA G 6 t0))] hl (by decide) rfl rfl dX1_treeDepth_3 (fun ls hl => ?_)
  refine r_jn (fun k29 : Int32 → Option Int32 => ∀ (v1_1 : Int32) H1 L1 ls, Hp G o s H1 L1 → lv_has ls 3 [(1, .int v1_1)] → k29 v1_1 = some r → W p l e rmX1_treeDepth s m args below meth c H1 L1 0 0 (Qm G (some (.int r)) o rmX1_treeDepth below args s) (F0 m 29 ls [])) hf ?_ (fun k29 j29 hf => ?_)
  · intro v1_1 H1 L1 ls  P hl hf
    refine r_iload_n C hl 0 rfl rfl dX1_treeDepth_29 ?_
    exact q_iret C P (rm := rmX1_treeDepth) ⟨rfl, rfl⟩ dX1_treeDepth_30 hf
  exact lX1_treeDepth_4 C ht0 j29 FU ((0 : Int32)) ((0 : Int32)) _ _ _ P (lv_sub hl [2, 1, 0] rfl) hf
theorem ctX1_treeDepth (l : Launch) (G : Gd) (o : OM) (t0 : Nat) (ht0 : okb 6 t0 = true) {r : Int32} (hf : F_X1_treeDepth o t0 = some r) : Ct l yX1_treeDepth cX1_treeDepth 3 (some .int) rmX1_treeDepth G [.ref (rA G 6 t0)] o (some (.int r)) o := ct_of (by decide +kernel) (Nat.le_of_ble_eq_true rfl) (fun p e s m below meth c ls C P hl => wX1_treeDepth C ht0 P hl hf)
theorem dX1_widestGap_0 : Dc cX1_widestGap 0 (.iconst 0) 1 1 := ⟨by decide +kernel, rfl⟩
theorem dX1_widestGap_1 : Dc cX1_widestGap 1 (.istore_n 1) 1 2 := ⟨by decide +kernel, rfl⟩
theorem dX1_widestGap_2 : Dc cX1_widestGap 2 (.iconst 1) 1 3 := ⟨by decide +kernel, rfl⟩
theorem dX1_widestGap_3 : Dc cX1_widestGap 3 (.istore_n 2) 1 4 := ⟨by decide +kernel, rfl⟩
theorem dX1_widestGap_4 : Dc cX1_widestGap 4 (.iload_n 2) 1 5 := ⟨by decide +kernel, rfl⟩
theorem dX1_widestGap_5 : Dc cX1_widestGap 5 (.aload_n 0) 1 6 := ⟨by decide +kernel, rfl⟩
theorem dX1_widestGap_6 : Dc cX1_widestGap 6 (.getfield 33) 3 9 := ⟨by decide +kernel, rfl⟩
theorem dX1_widestGap_9 : Dj cX1_widestGap 9 (.if_icmp .ge 39) 3 12 (39) 48 := ⟨by decide +kernel, rfl, by decide⟩
theorem dX1_widestGap_12 : Dc cX1_widestGap 12 (.iload_n 1) 1 13 := ⟨by decide +kernel, rfl⟩
theorem dX1_widestGap_13 : Dc cX1_widestGap 13 (.aload_n 0) 1 14 := ⟨by decide +kernel, rfl⟩
theorem dX1_widestGap_14 : Dc cX1_widestGap 14 (.getfield 15) 3 17 := ⟨by decide +kernel, rfl⟩
theorem dX1_widestGap_17 : Dc cX1_widestGap 17 (.aload_n 0) 1 18 := ⟨by decide +kernel, rfl⟩
theorem dX1_widestGap_18 : Dc cX1_widestGap 18 (.getfield 30) 3 21 := ⟨by decide +kernel, rfl⟩
theorem dX1_widestGap_21 : Dc cX1_widestGap 21 (.iload_n 2) 1 22 := ⟨by decide +kernel, rfl⟩
theorem dX1_widestGap_22 : Dc cX1_widestGap 22 (.iaload) 1 23 := ⟨by decide +kernel, rfl⟩
theorem dX1_widestGap_23 : Dc cX1_widestGap 23 (.iaload) 1 24 := ⟨by decide +kernel, rfl⟩
theorem dX1_widestGap_24 : Dc cX1_widestGap 24 (.aload_n 0) 1 25 := ⟨by decide +kernel, rfl⟩
theorem dX1_widestGap_25 : Dc cX1_widestGap 25 (.getfield 15) 3 28 := ⟨by decide +kernel, rfl⟩
theorem dX1_widestGap_28 : Dc cX1_widestGap 28 (.aload_n 0) 1 29 := ⟨by decide +kernel, rfl⟩
theorem dX1_widestGap_29 : Dc cX1_widestGap 29 (.getfield 30) 3 32 := ⟨by decide +kernel, rfl⟩
theorem dX1_widestGap_32 : Dc cX1_widestGap 32 (.iload_n 2) 1 33 := ⟨by decide +kernel, rfl⟩
theorem dX1_widestGap_33 : Dc cX1_widestGap 33 (.iconst 1) 1 34 := ⟨by decide +kernel, rfl⟩
theorem dX1_widestGap_34 : Dc cX1_widestGap 34 (.isub) 1 35 := ⟨by decide +kernel, rfl⟩
theorem dX1_widestGap_35 : Dc cX1_widestGap 35 (.iaload) 1 36 := ⟨by decide +kernel, rfl⟩
theorem dX1_widestGap_36 : Dc cX1_widestGap 36 (.iaload) 1 37 := ⟨by decide +kernel, rfl⟩
theorem dX1_widestGap_37 : Dc cX1_widestGap 37 (.isub) 1 38 := ⟨by decide +kernel, rfl⟩
theorem dX1_widestGap_38 : Dc cX1_widestGap 38 (.invokestatic 58) 3 41 := ⟨by decide +kernel, rfl⟩
theorem dX1_widestGap_41 : Dc cX1_widestGap 41 (.istore_n 1) 1 42 := ⟨by decide +kernel, rfl⟩
theorem dX1_widestGap_42 : Dc cX1_widestGap 42 (.iinc 2 1) 3 45 := ⟨by decide +kernel, rfl⟩
theorem dX1_widestGap_45 : Dj cX1_widestGap 45 (.goto (-41)) 3 48 (-41) 4 := ⟨by decide +kernel, rfl, by decide⟩
theorem dX1_widestGap_48 : Dc cX1_widestGap 48 (.iload_n 1) 1 49 := ⟨by decide +kernel, rfl⟩
theorem dX1_widestGap_49 : Dc cX1_widestGap 49 (.ireturn) 1 50 := ⟨by decide +kernel, rfl⟩
def LX1_widestGap_4 (k48 : Int32 → Option Int32) (o : OM) (t0 : Nat) : Nat → Int32 → Int32 → Option Int32
  | 0 => fun _ _ => none
  | n + 1 => fun v1_2 v2_3 => if (rd o 6 t0 0) ≤ v2_3 then (k48 v1_2) else (grd (inB v2_3 10) (grd (inB (rd o 13 t0 v2_3.toNatClampNeg) 10) (grd (inB (v2_3 - ((1 : Int32))) 10) (grd (inB (rd o 13 t0 (v2_3 - ((1 : Int32))).toNatClampNeg) 10) (bq (F_J9_max_7cf53 o v1_2 ((rd o 8 t0 (rd o 13 t0 v2_3.toNatClampNeg).toNatClampNeg) - (rd o 8 t0 (rd o 13 t0 (v2_3 - ((1 : Int32))).toNatClampNeg).toNatClampNeg))) (fun r_4 => bd (v2_3 + (1 : Int32)) (fun v2_5 : Int32 => (LX1_widestGap_4 k48 o t0 n) r_4 v2_5)))))))
def F_X1_widestGap (o : OM) (t0 : Nat) : Option Int32 := bd (fun (v1_1 : Int32) => some v1_1) (fun k48 => LX1_widestGap_4 k48 o t0 FU ((0 : Int32)) ((1 : Int32)))
abbrev rmX1_widestGap : Room := { frames := 1, cells := 0, slots := 0, locals := 21 }
set_option maxHeartbeats 4000000 in
set_option maxRecDepth 100000 in
theorem lX1_widestGap_4 {G : Gd} {p : Program} {l : Launch} {e : Env} {s : State} {m : MethodId} {args : Array Value} {below : List Frame} {meth : Method} {c : Code} {r : Int32} {o : OM} {t0 : Nat} (C : Cx G RX1 cX1_widestGap 3 (some .int) p s m args meth c) (ht0 : okb 6 t0 = true) {k48 : Int32 → Option Int32} (j48 : ∀ (v1_1 : Int32) H1 L1 ls, Hp G o s H1 L1 → lv_has ls 3 [(1, .int v1_1)] → k48 v1_1 = some r → W p l e rmX1_widestGap s m args below meth c H1 L1 0 0 (Qm G (some (.int r)) o rmX1_widestGap below args s) (F0 m 48 ls [])) : ∀ (n : Nat) (v1_2 : Int32) (v2_3 : Int32) H1 L1 ls, Hp G o s H1 L1 → lv_has ls 3 [(0, .ref (rA G 6 t0)), (1, .int v1_2), (2, .int v2_3)] → LX1_widestGap_4 k48 o t0 n v1_2 v2_3 = some r → W p l e rmX1_widestGap s m args below meth c H1 L1 0 0 (Qm G (some (.int r)) o rmX1_widestGap below args s) (F0 m 4 ls []) := by
  intro n
  induction n with
  | zero =>
    intro v1_2 v2_3 H1 L1 ls P hl hf
    exact nomatch hf
  | succ n ih =>
    intro v1_2 v2_3 H1 L1 ls P hl hf
    rw [LX1_widestGap_4.eq_2] at hf
    refine r_iload_n C hl 2 rfl rfl dX1_widestGap_4 ?_
    refine r_aload_n C hl 0 rfl rfl dX1_widestGap_5 ?_
    refine gf_6_0 C P ht0 wd_62 dX1_widestGap_6 ?_
    refine r_icmp_ge C dX1_widestGap_9 hf (fun hf => ?_) (fun hf => ?_)
    · exact j48 v1_2 _ _ _ P (lv_sub hl [1] rfl) hf
    · refine r_iload_n C hl 1 rfl rfl dX1_widestGap_12 ?_
      refine r_aload_n C hl 0 rfl rfl dX1_widestGap_13 ?_
      refine gf_6_2 C P ht0 wd_68 dX1_widestGap_14 ?_
      refine r_aload_n C hl 0 rfl rfl dX1_widestGap_17 ?_
      refine gf_6_7 C P ht0 wd_77 dX1_widestGap_18 ?_
      refine r_iload_n C hl 2 rfl rfl dX1_widestGap_21 ?_
      refine r_iald C P (k := 13) (i := t0) (n := 10) (fun _ _ => rfl) ht0 dX1_widestGap_22 hf (fun hf => ?_)
      refine r_iald C P (k := 8) (i := t0) (n := 10) (fun _ _ => rfl) ht0 dX1_widestGap_23 hf (fun hf => ?_)
      refine r_aload_n C hl 0 rfl rfl dX1_widestGap_24 ?_
      refine gf_6_2 C P ht0 wd_68 dX1_widestGap_25 ?_
      refine r_aload_n C hl 0 rfl rfl dX1_widestGap_28 ?_
      refine gf_6_7 C P ht0 wd_77 dX1_widestGap_29 ?_
      refine r_iload_n C hl 2 rfl rfl dX1_widestGap_32 ?_
      refine r_iconst C (v := 1) (by decide) dX1_widestGap_33 ?_
      refine r_isub C dX1_widestGap_34 ?_
      refine r_iald C P (k := 13) (i := t0) (n := 10) (fun _ _ => rfl) ht0 dX1_widestGap_35 hf (fun hf => ?_)
      refine r_iald C P (k := 8) (i := t0) (n := 10) (fun _ _ => rfl) ht0 dX1_widestGap_36 hf (fun hf => ?_)
      refine r_isub C dX1_widestGap_37 ?_
      refine r_qSi C P cf_X1_58 (rm := rmJ9_max_7cf53) [.int v1_2, .int ((rd o 8 t0 (rd o 13 t0 v2_3.toNatClampNeg).toNatClampNeg) - (rd o 8 t0 (rd o 13 t0 (v2_3 - ((1 : Int32))).toNatClampNeg).toNatClampNeg))] [] hf (fun _ h => ctJ9_max_7cf53 l G o v1_2 ((rd o 8 t0 (rd o 13 t0 v2_3.toNatClampNeg).toNatClampNeg) - (rd o 8 t0 (rd o 13 t0 (v2_3 - ((1 : Int32))).toNatClampNeg).toNatClampNeg)) h) ⟨rfl, rfl⟩ ⟨Nat.le_of_ble_eq_true rfl, Nat.le_of_ble_eq_true rfl⟩ ⟨Nat.le_of_ble_eq_true rfl, Nat.le_of_ble_eq_true rfl⟩ rfl rfl hl.1 (Nat.le_of_ble_eq_true rfl) dX1_widestGap_38 (fun r_4 H1 L1 P hf => ?_)
      refine r_istore_n C [(1, .int r_4), (0, .ref (rA G 6 t0)), (2, .int v2_3)] hl (by decide) rfl rfl dX1_widestGap_41 (fun ls hl => ?_)
      refine r_iinc C (fun v2_5 => [(2, .int v2_5), (1, .int r_4), (0, .ref (rA G 6 t0))]) (w := 1) 2 hl rfl (by decide) (by decide) (fun _ => rfl) dX1_widestGap_42 hf (fun v2_5 ls hl hf => ?_)
      refine r_goto C dX1_widestGap_45 ?_
      exact ih r_4 v2_5 _ _ _ P (lv_sub hl [2, 1, 0] rfl) hf
set_option maxHeartbeats 4000000 in
set_option maxRecDepth 100000 in
theorem wX1_widestGap {G : Gd} {p : Program} {l : Launch} {e : Env} {s : State} {m : MethodId} {args : Array Value} {below : List Frame} {meth : Method} {c : Code} {o : OM} {H : Heap} {L0 : List Loc} {ls : Array Slot} {r : Int32} {t0 : Nat} (C : Cx G RX1 cX1_widestGap 3 (some .int) p s m args meth c) (ht0 : okb 6 t0 = true) (P : Hp G o s H L0) (hl : lv_has ls 3 [(0, .ref (rA G 6 t0))]) (hf : F_X1_widestGap o t0 = some r) : W p l e rmX1_widestGap s m args below meth c H L0 0 0 (Qm G (some (.int r)) o rmX1_widestGap below args s) (F0 m 0 ls []) := by
  unfold F_X1_widestGap at hf
  refine r_iconst C (v := 0) (by decide) dX1_widestGap_0 ?_
  refine r_istore_n C [(1, .int ((0 : Int32))), (0, .ref (rA G 6 t0))] hl (by decide) rfl rfl dX1_widestGap_1 (fun ls hl => ?_)
  refine r_iconst C (v := 1) (by decide) dX1_widestGap_2 ?_
  refine r_istore_n C [(2, .int ((1 : Int32))), (1, .int ((0 : Int32))), (0, .ref (rA G 6 t0))] hl (by decide) rfl rfl dX1_widestGap_3 (fun ls hl => ?_)
  refine r_jn (fun k48 : Int32 → Option Int32 => ∀ (v1_1 : Int32) H1 L1 ls, Hp G o s H1 L1 → lv_has ls 3 [(1, .int v1_1)] → k48 v1_1 = some r → W p l e rmX1_widestGap s m args below meth c H1 L1 0 0 (Qm G (some (.int r)) o rmX1_widestGap below args s) (F0 m 48 ls [])) hf ?_ (fun k48 j48 hf => ?_)
  · intro v1_1 H1 L1 ls  P hl hf
    refine r_iload_n C hl 0 rfl rfl dX1_widestGap_48 ?_
    exact q_iret C P (rm := rmX1_widestGap) ⟨rfl, rfl⟩ dX1_widestGap_49 hf
  exact lX1_widestGap_4 C ht0 j48 FU ((0 : Int32)) ((1 : Int32)) _ _ _ P (lv_sub hl [2, 1, 0] rfl) hf
theorem ctX1_widestGap (l : Launch) (G : Gd) (o : OM) (t0 : Nat) (ht0 : okb 6 t0 = true) {r : Int32} (hf : F_X1_widestGap o t0 = some r) : Ct l yX1_widestGap cX1_widestGap 3 (some .int) rmX1_widestGap G [.ref (rA G 6 t0)] o (some (.int r)) o := ct_of (by decide +kernel) (Nat.le_of_ble_eq_true rfl) (fun p e s m below meth c ls C P hl => wX1_widestGap C ht0 P hl hf)
theorem dX1_lastUpTo_0 : Dc cX1_lastUpTo 0 (.iconst (-1)) 1 1 := ⟨by decide +kernel, rfl⟩
theorem dX1_lastUpTo_1 : Dc cX1_lastUpTo 1 (.istore_n 2) 1 2 := ⟨by decide +kernel, rfl⟩
theorem dX1_lastUpTo_2 : Dc cX1_lastUpTo 2 (.aload_n 0) 1 3 := ⟨by decide +kernel, rfl⟩
theorem dX1_lastUpTo_3 : Dc cX1_lastUpTo 3 (.getfield 33) 3 6 := ⟨by decide +kernel, rfl⟩
theorem dX1_lastUpTo_6 : Dj cX1_lastUpTo 6 (.ifCond .le 7) 3 9 (7) 13 := ⟨by decide +kernel, rfl, by decide⟩
theorem dX1_lastUpTo_9 : Dc cX1_lastUpTo 9 (.iconst 0) 1 10 := ⟨by decide +kernel, rfl⟩
theorem dX1_lastUpTo_10 : Dj cX1_lastUpTo 10 (.goto 4) 3 13 (4) 14 := ⟨by decide +kernel, rfl, by decide⟩
theorem dX1_lastUpTo_13 : Dc cX1_lastUpTo 13 (.iconst (-1)) 1 14 := ⟨by decide +kernel, rfl⟩
theorem dX1_lastUpTo_14 : Dc cX1_lastUpTo 14 (.istore_n 3) 1 15 := ⟨by decide +kernel, rfl⟩
theorem dX1_lastUpTo_15 : Dc cX1_lastUpTo 15 (.iconst 0) 1 16 := ⟨by decide +kernel, rfl⟩
theorem dX1_lastUpTo_16 : Dc cX1_lastUpTo 16 (.istore 4) 2 18 := ⟨by decide +kernel, rfl⟩
theorem dX1_lastUpTo_18 : Dc cX1_lastUpTo 18 (.iload 4) 2 20 := ⟨by decide +kernel, rfl⟩
theorem dX1_lastUpTo_20 : Dc cX1_lastUpTo 20 (.aload_n 0) 1 21 := ⟨by decide +kernel, rfl⟩
theorem dX1_lastUpTo_21 : Dc cX1_lastUpTo 21 (.getfield 33) 3 24 := ⟨by decide +kernel, rfl⟩
theorem dX1_lastUpTo_24 : Dj cX1_lastUpTo 24 (.if_icmp .ge 43) 3 27 (43) 67 := ⟨by decide +kernel, rfl, by decide⟩
theorem dX1_lastUpTo_27 : Dc cX1_lastUpTo 27 (.iload_n 3) 1 28 := ⟨by decide +kernel, rfl⟩
theorem dX1_lastUpTo_28 : Dc cX1_lastUpTo 28 (.iconst (-1)) 1 29 := ⟨by decide +kernel, rfl⟩
theorem dX1_lastUpTo_29 : Dj cX1_lastUpTo 29 (.if_icmp .eq 38) 3 32 (38) 67 := ⟨by decide +kernel, rfl, by decide⟩
theorem dX1_lastUpTo_32 : Dc cX1_lastUpTo 32 (.aload_n 0) 1 33 := ⟨by decide +kernel, rfl⟩
theorem dX1_lastUpTo_33 : Dc cX1_lastUpTo 33 (.getfield 9) 3 36 := ⟨by decide +kernel, rfl⟩
theorem dX1_lastUpTo_36 : Dc cX1_lastUpTo 36 (.iload_n 3) 1 37 := ⟨by decide +kernel, rfl⟩
theorem dX1_lastUpTo_37 : Dc cX1_lastUpTo 37 (.iaload) 1 38 := ⟨by decide +kernel, rfl⟩
theorem dX1_lastUpTo_38 : Dc cX1_lastUpTo 38 (.iload_n 1) 1 39 := ⟨by decide +kernel, rfl⟩
theorem dX1_lastUpTo_39 : Dj cX1_lastUpTo 39 (.if_icmp .gt 15) 3 42 (15) 54 := ⟨by decide +kernel, rfl, by decide⟩
theorem dX1_lastUpTo_42 : Dc cX1_lastUpTo 42 (.iload_n 3) 1 43 := ⟨by decide +kernel, rfl⟩
theorem dX1_lastUpTo_43 : Dc cX1_lastUpTo 43 (.istore_n 2) 1 44 := ⟨by decide +kernel, rfl⟩
theorem dX1_lastUpTo_44 : Dc cX1_lastUpTo 44 (.aload_n 0) 1 45 := ⟨by decide +kernel, rfl⟩
theorem dX1_lastUpTo_45 : Dc cX1_lastUpTo 45 (.getfield 24) 3 48 := ⟨by decide +kernel, rfl⟩
theorem dX1_lastUpTo_48 : Dc cX1_lastUpTo 48 (.iload_n 3) 1 49 := ⟨by decide +kernel, rfl⟩
theorem dX1_lastUpTo_49 : Dc cX1_lastUpTo 49 (.iaload) 1 50 := ⟨by decide +kernel, rfl⟩
theorem dX1_lastUpTo_50 : Dc cX1_lastUpTo 50 (.istore_n 3) 1 51 := ⟨by decide +kernel, rfl⟩
theorem dX1_lastUpTo_51 : Dj cX1_lastUpTo 51 (.goto 10) 3 54 (10) 61 := ⟨by decide +kernel, rfl, by decide⟩
theorem dX1_lastUpTo_54 : Dc cX1_lastUpTo 54 (.aload_n 0) 1 55 := ⟨by decide +kernel, rfl⟩
theorem dX1_lastUpTo_55 : Dc cX1_lastUpTo 55 (.getfield 21) 3 58 := ⟨by decide +kernel, rfl⟩
theorem dX1_lastUpTo_58 : Dc cX1_lastUpTo 58 (.iload_n 3) 1 59 := ⟨by decide +kernel, rfl⟩
theorem dX1_lastUpTo_59 : Dc cX1_lastUpTo 59 (.iaload) 1 60 := ⟨by decide +kernel, rfl⟩
theorem dX1_lastUpTo_60 : Dc cX1_lastUpTo 60 (.istore_n 3) 1 61 := ⟨by decide +kernel, rfl⟩
theorem dX1_lastUpTo_61 : Dc cX1_lastUpTo 61 (.iinc 4 1) 3 64 := ⟨by decide +kernel, rfl⟩
theorem dX1_lastUpTo_64 : Dj cX1_lastUpTo 64 (.goto (-46)) 3 67 (-46) 18 := ⟨by decide +kernel, rfl, by decide⟩
theorem dX1_lastUpTo_67 : Dc cX1_lastUpTo 67 (.iload_n 2) 1 68 := ⟨by decide +kernel, rfl⟩
theorem dX1_lastUpTo_68 : Dc cX1_lastUpTo 68 (.ireturn) 1 69 := ⟨by decide +kernel, rfl⟩
def LX1_lastUpTo_18 (k67 : Int32 → Option Int32) (o : OM) (t0 : Nat) (v1 : Int32) : Nat → Int32 → Int32 → Int32 → Option Int32
  | 0 => fun _ _ _ => none
  | n + 1 => fun v2_3 v3_4 v4_5 => if (rd o 6 t0 0) ≤ v4_5 then (k67 v2_3) else (if v3_4 = ((-1 : Int32)) then (k67 v2_3) else (grd (inB v3_4 10) (bd (fun (v2_6 : Int32) (v3_7 : Int32) => bd (v4_5 + (1 : Int32)) (fun v4_8 : Int32 => (LX1_lastUpTo_18 k67 o t0 v1 n) v2_6 v3_7 v4_8)) (fun k61 => if v1 < (rd o 7 t0 v3_4.toNatClampNeg) then (grd (inB v3_4 10) (bd (rd o 10 t0 v3_4.toNatClampNeg) (fun v3_9 : Int32 => k61 v2_3 v3_9))) else (grd (inB v3_4 10) (bd (rd o 11 t0 v3_4.toNatClampNeg) (fun v3_10 : Int32 => k61 v3_4 v3_10)))))))
def F_X1_lastUpTo (o : OM) (t0 : Nat) (v1 : Int32) : Option Int32 := bd (fun (s_1 : Int32) => bd (fun (v2_2 : Int32) => some v2_2) (fun k67 => LX1_lastUpTo_18 k67 o t0 v1 FU ((-1 : Int32)) s_1 ((0 : Int32)))) (fun k14 => if (rd o 6 t0 0) ≤ 0 then (k14 ((-1 : Int32))) else (k14 ((0 : Int32))))
abbrev rmX1_lastUpTo : Room := { frames := 0, cells := 0, slots := 0, locals := 0 }
set_option maxHeartbeats 4000000 in
set_option maxRecDepth 100000 in
theorem lX1_lastUpTo_18 {G : Gd} {p : Program} {l : Launch} {e : Env} {s : State} {m : MethodId} {args : Array Value} {below : List Frame} {meth : Method} {c : Code} {r : Int32} {o : OM} {t0 : Nat} {v1 : Int32} (C : Cx G RX1 cX1_lastUpTo 5 (some .int) p s m args meth c) (ht0 : okb 6 t0 = true) {k67 : Int32 → Option Int32} (j67 : ∀ (v2_2 : Int32) H1 L1 ls, Hp G o s H1 L1 → lv_has ls 5 [(2, .int v2_2)] → k67 v2_2 = some r → W p l e rmX1_lastUpTo s m args below meth c H1 L1 0 0 (Qm G (some (.int r)) o rmX1_lastUpTo below args s) (F0 m 67 ls [])) : ∀ (n : Nat) (v2_3 : Int32) (v3_4 : Int32) (v4_5 : Int32) H1 L1 ls, Hp G o s H1 L1 → lv_has ls 5 [(0, .ref (rA G 6 t0)), (1, .int v1), (2, .int v2_3), (3, .int v3_4), (4, .int v4_5)] → LX1_lastUpTo_18 k67 o t0 v1 n v2_3 v3_4 v4_5 = some r → W p l e rmX1_lastUpTo s m args below meth c H1 L1 0 0 (Qm G (some (.int r)) o rmX1_lastUpTo below args s) (F0 m 18 ls []) := by
  intro n
  induction n with
  | zero =>
    intro v2_3 v3_4 v4_5 H1 L1 ls P hl hf
    exact nomatch hf
  | succ n ih =>
    intro v2_3 v3_4 v4_5 H1 L1 ls P hl hf
    rw [LX1_lastUpTo_18.eq_2] at hf
    refine r_iload C hl 4 rfl dX1_lastUpTo_18 ?_
    refine r_aload_n C hl 0 rfl rfl dX1_lastUpTo_20 ?_
    refine gf_6_0 C P ht0 wd_62 dX1_lastUpTo_21 ?_
    refine r_icmp_ge C dX1_lastUpTo_24 hf (fun hf => ?_) (fun hf => ?_)
    · exact j67 v2_3 _ _ _ P (lv_sub hl [2] rfl) hf
    · refine r_iload_n C hl 3 rfl rfl dX1_lastUpTo_27 ?_
      refine r_iconst C (v := -1) (by decide) dX1_lastUpTo_28 ?_
      refine r_icmp_eq C dX1_lastUpTo_29 hf (fun hf => ?_) (fun hf => ?_)
      · exact j67 v2_3 _ _ _ P (lv_sub hl [2] rfl) hf
      · refine r_aload_n C hl 0 rfl rfl dX1_lastUpTo_32 ?_
        refine gf_6_1 C P ht0 wd_66 dX1_lastUpTo_33 ?_
        refine r_iload_n C hl 3 rfl rfl dX1_lastUpTo_36 ?_
        refine r_iald C P (k := 7) (i := t0) (n := 10) (fun _ _ => rfl) ht0 dX1_lastUpTo_37 hf (fun hf => ?_)
        refine r_iload_n C hl 1 rfl rfl dX1_lastUpTo_38 ?_
        refine r_jn (fun k61 : Int32 → Int32 → Option Int32 => ∀ (v2_6 : Int32) (v3_7 : Int32) H1 L1 ls, Hp G o s H1 L1 → lv_has ls 5 [(0, .ref (rA G 6 t0)), (1, .int v1), (2, .int v2_6), (3, .int v3_7), (4, .int v4_5)] → k61 v2_6 v3_7 = some r → W p l e rmX1_lastUpTo s m args below meth c H1 L1 0 0 (Qm G (some (.int r)) o rmX1_lastUpTo below args s) (F0 m 61 ls [])) hf ?_ (fun k61 j61 hf => ?_)
        · intro v2_6 v3_7 H1 L1 ls  P hl hf
          refine r_iinc C (fun v4_8 => [(4, .int v4_8), (0, .ref (rA G 6 t0)), (1, .int v1), (2, .int v2_6), (3, .int v3_7)]) (w := 1) 4 hl rfl (by decide) (by decide) (fun _ => rfl) dX1_lastUpTo_61 hf (fun v4_8 ls hl hf => ?_)
          refine r_goto C dX1_lastUpTo_64 ?_
          exact ih v2_6 v3_7 v4_8 _ _ _ P (lv_sub hl [1, 2, 3, 4, 0] rfl) hf
        refine r_icmp_gt C dX1_lastUpTo_39 hf (fun hf => ?_) (fun hf => ?_)
        · refine r_aload_n C hl 0 rfl rfl dX1_lastUpTo_54 ?_
          refine gf_6_4 C P ht0 wd_73 dX1_lastUpTo_55 ?_
          refine r_iload_n C hl 3 rfl rfl dX1_lastUpTo_58 ?_
          refine r_iald C P (k := 10) (i := t0) (n := 10) (fun _ _ => rfl) ht0 dX1_lastUpTo_59 hf (fun hf => ?_)
          refine r_bdi hf (fun v3_9 hf => ?_)
          refine r_istore_n C [(3, .int v3_9), (0, .ref (rA G 6 t0)), (1, .int v1), (2, .int v2_3), (4, .int v4_5)] hl (by decide) rfl rfl dX1_lastUpTo_60 (fun ls hl => ?_)
          exact j61 v2_3 v3_9 _ _ _ P (lv_sub hl [1, 2, 3, 0, 4] rfl) hf
        · refine r_iload_n C hl 3 rfl rfl dX1_lastUpTo_42 ?_
          refine r_istore_n C [(2, .int v3_4), (0, .ref (rA G 6 t0)), (1, .int v1), (3, .int v3_4), (4, .int v4_5)] hl (by decide) rfl rfl dX1_lastUpTo_43 (fun ls hl => ?_)
          refine r_aload_n C hl 1 rfl rfl dX1_lastUpTo_44 ?_
          refine gf_6_5 C P ht0 wd_74 dX1_lastUpTo_45 ?_
          refine r_iload_n C hl 3 rfl rfl dX1_lastUpTo_48 ?_
          refine r_iald C P (k := 11) (i := t0) (n := 10) (fun _ _ => rfl) ht0 dX1_lastUpTo_49 hf (fun hf => ?_)
          refine r_bdi hf (fun v3_10 hf => ?_)
          refine r_istore_n C [(3, .int v3_10), (2, .int v3_4), (0, .ref (rA G 6 t0)), (1, .int v1), (4, .int v4_5)] hl (by decide) rfl rfl dX1_lastUpTo_50 (fun ls hl => ?_)
          refine r_goto C dX1_lastUpTo_51 ?_
          exact j61 v3_4 v3_10 _ _ _ P (lv_sub hl [2, 3, 1, 0, 4] rfl) hf
set_option maxHeartbeats 4000000 in
set_option maxRecDepth 100000 in
theorem wX1_lastUpTo {G : Gd} {p : Program} {l : Launch} {e : Env} {s : State} {m : MethodId} {args : Array Value} {below : List Frame} {meth : Method} {c : Code} {o : OM} {H : Heap} {L0 : List Loc} {ls : Array Slot} {r : Int32} {t0 : Nat} {v1 : Int32} (C : Cx G RX1 cX1_lastUpTo 5 (some .int) p s m args meth c) (ht0 : okb 6 t0 = true) (P : Hp G o s H L0) (hl : lv_has ls 5 [(0, .ref (rA G 6 t0)), (1, .int v1)]) (hf : F_X1_lastUpTo o t0 v1 = some r) : W p l e rmX1_lastUpTo s m args below meth c H L0 0 0 (Qm G (some (.int r)) o rmX1_lastUpTo below args s) (F0 m 0 ls []) := by
  unfold F_X1_lastUpTo at hf
  refine r_iconst C (v := -1) (by decide) dX1_lastUpTo_0 ?_
  refine r_istore_n C [(2, .int ((-1 : Int32))), (0, .ref (rA G 6 t0)), (1, .int v1)] hl (by decide) rfl rfl dX1_lastUpTo_1 (fun ls hl => ?_)
  refine r_aload_n C hl 1 rfl rfl dX1_lastUpTo_2 ?_
  refine gf_6_0 C P ht0 wd_62 dX1_lastUpTo_3 ?_
  refine r_jn (fun k14 : Int32 → Option Int32 => ∀ (s_1 : Int32) H1 L1 ls, Hp G o s H1 L1 → lv_has ls 5 [(0, .ref (rA G 6 t0)), (1, .int v1), (2, .int ((-1 : Int32)))] → k14 s_1 = some r → W p l e rmX1_lastUpTo s m args below meth c H1 L1 0 0 (Qm G (some (.int r)) o rmX1_lastUpTo below args s) (F0 m 14 ls [.int s_1])) hf ?_ (fun k14 j14 hf => ?_)
  · intro s_1 H1 L1 ls  P hl hf
    refine r_istore_n C [(3, .int s_1), (0, .ref (rA G 6 t0)), (1, .int v1), (2, .int ((-1 : Int32)))] hl (by decide) rfl rfl dX1_lastUpTo_14 (fun ls hl => ?_)
    refine r_iconst C (v := 0) (by decide) dX1_lastUpTo_15 ?_
    refine r_istore C [(4, .int ((0 : Int32))), (3, .int s_1), (0, .ref (rA G 6 t0)), (1, .int v1), (2, .int ((-1 : Int32)))] hl (by decide) rfl dX1_lastUpTo_16 (fun ls hl => ?_)
    refine r_jn (fun k67 : Int32 → Option Int32 => ∀ (v2_2 : Int32) H1 L1 ls, Hp G o s H1 L1 → lv_has ls 5 [(2, .int v2_2)] → k67 v2_2 = some r → W p l e rmX1_lastUpTo s m args below meth c H1 L1 0 0 (Qm G (some (.int r)) o rmX1_lastUpTo below args s) (F0 m 67 ls [])) hf ?_ (fun k67 j67 hf => ?_)
    · intro v2_2 H1 L1 ls  P hl hf
      refine r_iload_n C hl 0 rfl rfl dX1_lastUpTo_67 ?_
      exact q_iret C P (rm := rmX1_lastUpTo) ⟨rfl, rfl⟩ dX1_lastUpTo_68 hf
    exact lX1_lastUpTo_18 C ht0 j67 FU ((-1 : Int32)) s_1 ((0 : Int32)) _ _ _ P (lv_sub hl [2, 3, 4, 1, 0] rfl) hf
  refine r_if_le C dX1_lastUpTo_6 hf (fun hf => ?_) (fun hf => ?_)
  · refine r_iconst C (v := -1) (by decide) dX1_lastUpTo_13 ?_
    exact j14 ((-1 : Int32)) _ _ _ P (lv_sub hl [1, 2, 0] rfl) hf
  · refine r_iconst C (v := 0) (by decide) dX1_lastUpTo_9 ?_
    refine r_goto C dX1_lastUpTo_10 ?_
    exact j14 ((0 : Int32)) _ _ _ P (lv_sub hl [1, 2, 0] rfl) hf
theorem ctX1_lastUpTo (l : Launch) (G : Gd) (o : OM) (t0 : Nat) (v1 : Int32) (ht0 : okb 6 t0 = true) {r : Int32} (hf : F_X1_lastUpTo o t0 v1 = some r) : Ct l yX1_lastUpTo cX1_lastUpTo 5 (some .int) rmX1_lastUpTo G [.ref (rA G 6 t0), .int v1] o (some (.int r)) o := ct_of (by decide +kernel) (Nat.le_of_ble_eq_true rfl) (fun p e s m below meth c ls C P hl => wX1_lastUpTo C ht0 P hl hf)
theorem dX1_firstAbove_0 : Dc cX1_firstAbove 0 (.iconst (-1)) 1 1 := ⟨by decide +kernel, rfl⟩
theorem dX1_firstAbove_1 : Dc cX1_firstAbove 1 (.istore_n 2) 1 2 := ⟨by decide +kernel, rfl⟩
theorem dX1_firstAbove_2 : Dc cX1_firstAbove 2 (.aload_n 0) 1 3 := ⟨by decide +kernel, rfl⟩
theorem dX1_firstAbove_3 : Dc cX1_firstAbove 3 (.getfield 33) 3 6 := ⟨by decide +kernel, rfl⟩
theorem dX1_firstAbove_6 : Dj cX1_firstAbove 6 (.ifCond .le 7) 3 9 (7) 13 := ⟨by decide +kernel, rfl, by decide⟩
theorem dX1_firstAbove_9 : Dc cX1_firstAbove 9 (.iconst 0) 1 10 := ⟨by decide +kernel, rfl⟩
theorem dX1_firstAbove_10 : Dj cX1_firstAbove 10 (.goto 4) 3 13 (4) 14 := ⟨by decide +kernel, rfl, by decide⟩
theorem dX1_firstAbove_13 : Dc cX1_firstAbove 13 (.iconst (-1)) 1 14 := ⟨by decide +kernel, rfl⟩
theorem dX1_firstAbove_14 : Dc cX1_firstAbove 14 (.istore_n 3) 1 15 := ⟨by decide +kernel, rfl⟩
theorem dX1_firstAbove_15 : Dc cX1_firstAbove 15 (.iconst 0) 1 16 := ⟨by decide +kernel, rfl⟩
theorem dX1_firstAbove_16 : Dc cX1_firstAbove 16 (.istore 4) 2 18 := ⟨by decide +kernel, rfl⟩
theorem dX1_firstAbove_18 : Dc cX1_firstAbove 18 (.iload 4) 2 20 := ⟨by decide +kernel, rfl⟩
theorem dX1_firstAbove_20 : Dc cX1_firstAbove 20 (.aload_n 0) 1 21 := ⟨by decide +kernel, rfl⟩
theorem dX1_firstAbove_21 : Dc cX1_firstAbove 21 (.getfield 33) 3 24 := ⟨by decide +kernel, rfl⟩
theorem dX1_firstAbove_24 : Dj cX1_firstAbove 24 (.if_icmp .ge 43) 3 27 (43) 67 := ⟨by decide +kernel, rfl, by decide⟩
theorem dX1_firstAbove_27 : Dc cX1_firstAbove 27 (.iload_n 3) 1 28 := ⟨by decide +kernel, rfl⟩
theorem dX1_firstAbove_28 : Dc cX1_firstAbove 28 (.iconst (-1)) 1 29 := ⟨by decide +kernel, rfl⟩
theorem dX1_firstAbove_29 : Dj cX1_firstAbove 29 (.if_icmp .eq 38) 3 32 (38) 67 := ⟨by decide +kernel, rfl, by decide⟩
theorem dX1_firstAbove_32 : Dc cX1_firstAbove 32 (.aload_n 0) 1 33 := ⟨by decide +kernel, rfl⟩
theorem dX1_firstAbove_33 : Dc cX1_firstAbove 33 (.getfield 9) 3 36 := ⟨by decide +kernel, rfl⟩
theorem dX1_firstAbove_36 : Dc cX1_firstAbove 36 (.iload_n 3) 1 37 := ⟨by decide +kernel, rfl⟩
theorem dX1_firstAbove_37 : Dc cX1_firstAbove 37 (.iaload) 1 38 := ⟨by decide +kernel, rfl⟩
theorem dX1_firstAbove_38 : Dc cX1_firstAbove 38 (.iload_n 1) 1 39 := ⟨by decide +kernel, rfl⟩
theorem dX1_firstAbove_39 : Dj cX1_firstAbove 39 (.if_icmp .le 15) 3 42 (15) 54 := ⟨by decide +kernel, rfl, by decide⟩
theorem dX1_firstAbove_42 : Dc cX1_firstAbove 42 (.iload_n 3) 1 43 := ⟨by decide +kernel, rfl⟩
theorem dX1_firstAbove_43 : Dc cX1_firstAbove 43 (.istore_n 2) 1 44 := ⟨by decide +kernel, rfl⟩
theorem dX1_firstAbove_44 : Dc cX1_firstAbove 44 (.aload_n 0) 1 45 := ⟨by decide +kernel, rfl⟩
theorem dX1_firstAbove_45 : Dc cX1_firstAbove 45 (.getfield 21) 3 48 := ⟨by decide +kernel, rfl⟩
theorem dX1_firstAbove_48 : Dc cX1_firstAbove 48 (.iload_n 3) 1 49 := ⟨by decide +kernel, rfl⟩
theorem dX1_firstAbove_49 : Dc cX1_firstAbove 49 (.iaload) 1 50 := ⟨by decide +kernel, rfl⟩
theorem dX1_firstAbove_50 : Dc cX1_firstAbove 50 (.istore_n 3) 1 51 := ⟨by decide +kernel, rfl⟩
theorem dX1_firstAbove_51 : Dj cX1_firstAbove 51 (.goto 10) 3 54 (10) 61 := ⟨by decide +kernel, rfl, by decide⟩
theorem dX1_firstAbove_54 : Dc cX1_firstAbove 54 (.aload_n 0) 1 55 := ⟨by decide +kernel, rfl⟩
theorem dX1_firstAbove_55 : Dc cX1_firstAbove 55 (.getfield 24) 3 58 := ⟨by decide +kernel, rfl⟩
theorem dX1_firstAbove_58 : Dc cX1_firstAbove 58 (.iload_n 3) 1 59 := ⟨by decide +kernel, rfl⟩
theorem dX1_firstAbove_59 : Dc cX1_firstAbove 59 (.iaload) 1 60 := ⟨by decide +kernel, rfl⟩
theorem dX1_firstAbove_60 : Dc cX1_firstAbove 60 (.istore_n 3) 1 61 := ⟨by decide +kernel, rfl⟩
theorem dX1_firstAbove_61 : Dc cX1_firstAbove 61 (.iinc 4 1) 3 64 := ⟨by decide +kernel, rfl⟩
theorem dX1_firstAbove_64 : Dj cX1_firstAbove 64 (.goto (-46)) 3 67 (-46) 18 := ⟨by decide +kernel, rfl, by decide⟩
theorem dX1_firstAbove_67 : Dc cX1_firstAbove 67 (.iload_n 2) 1 68 := ⟨by decide +kernel, rfl⟩
theorem dX1_firstAbove_68 : Dc cX1_firstAbove 68 (.ireturn) 1 69 := ⟨by decide +kernel, rfl⟩
def LX1_firstAbove_18 (k67 : Int32 → Option Int32) (o : OM) (t0 : Nat) (v1 : Int32) : Nat → Int32 → Int32 → Int32 → Option Int32
  | 0 => fun _ _ _ => none
  | n + 1 => fun v2_3 v3_4 v4_5 => if (rd o 6 t0 0) ≤ v4_5 then (k67 v2_3) else (if v3_4 = ((-1 : Int32)) then (k67 v2_3) else (grd (inB v3_4 10) (bd (fun (v2_6 : Int32) (v3_7 : Int32) => bd (v4_5 + (1 : Int32)) (fun v4_8 : Int32 => (LX1_firstAbove_18 k67 o t0 v1 n) v2_6 v3_7 v4_8)) (fun k61 => if (rd o 7 t0 v3_4.toNatClampNeg) ≤ v1 then (grd (inB v3_4 10) (bd (rd o 11 t0 v3_4.toNatClampNeg) (fun v3_9 : Int32 => k61 v2_3 v3_9))) else (grd (inB v3_4 10) (bd (rd o 10 t0 v3_4.toNatClampNeg) (fun v3_10 : Int32 => k61 v3_4 v3_10)))))))
def F_X1_firstAbove (o : OM) (t0 : Nat) (v1 : Int32) : Option Int32 := bd (fun (s_1 : Int32) => bd (fun (v2_2 : Int32) => some v2_2) (fun k67 => LX1_firstAbove_18 k67 o t0 v1 FU ((-1 : Int32)) s_1 ((0 : Int32)))) (fun k14 => if (rd o 6 t0 0) ≤ 0 then (k14 ((-1 : Int32))) else (k14 ((0 : Int32))))
abbrev rmX1_firstAbove : Room := { frames := 0, cells := 0, slots := 0, locals := 0 }
set_option maxHeartbeats 4000000 in
set_option maxRecDepth 100000 in
theorem lX1_firstAbove_18 {G : Gd} {p : Program} {l : Launch} {e : Env} {s : State} {m : MethodId} {args : Array Value} {below : List Frame} {meth : Method} {c : Code} {r : Int32} {o : OM} {t0 : Nat} {v1 : Int32} (C : Cx G RX1 cX1_firstAbove 5 (some .int) p s m args meth c) (ht0 : okb 6 t0 = true) {k67 : Int32 → Option Int32} (j67 : ∀ (v2_2 : Int32) H1 L1 ls, Hp G o s H1 L1 → lv_has ls 5 [(2, .int v2_2)] → k67 v2_2 = some r → W p l e rmX1_firstAbove s m args below meth c H1 L1 0 0 (Qm G (some (.int r)) o rmX1_firstAbove below args s) (F0 m 67 ls [])) : ∀ (n : Nat) (v2_3 : Int32) (v3_4 : Int32) (v4_5 : Int32) H1 L1 ls, Hp G o s H1 L1 → lv_has ls 5 [(0, .ref (rA G 6 t0)), (1, .int v1), (2, .int v2_3), (3, .int v3_4), (4, .int v4_5)] → LX1_firstAbove_18 k67 o t0 v1 n v2_3 v3_4 v4_5 = some r → W p l e rmX1_firstAbove s m args below meth c H1 L1 0 0 (Qm G (some (.int r)) o rmX1_firstAbove below args s) (F0 m 18 ls []) := by
  intro n
  induction n with
  | zero =>
    intro v2_3 v3_4 v4_5 H1 L1 ls P hl hf
    exact nomatch hf
  | succ n ih =>
    intro v2_3 v3_4 v4_5 H1 L1 ls P hl hf
    rw [LX1_firstAbove_18.eq_2] at hf
    refine r_iload C hl 4 rfl dX1_firstAbove_18 ?_
    refine r_aload_n C hl 0 rfl rfl dX1_firstAbove_20 ?_
    refine gf_6_0 C P ht0 wd_62 dX1_firstAbove_21 ?_
    refine r_icmp_ge C dX1_firstAbove_24 hf (fun hf => ?_) (fun hf => ?_)
    · exact j67 v2_3 _ _ _ P (lv_sub hl [2] rfl) hf
    · refine r_iload_n C hl 3 rfl rfl dX1_firstAbove_27 ?_
      refine r_iconst C (v := -1) (by decide) dX1_firstAbove_28 ?_
      refine r_icmp_eq C dX1_firstAbove_29 hf (fun hf => ?_) (fun hf => ?_)
      · exact j67 v2_3 _ _ _ P (lv_sub hl [2] rfl) hf
      · refine r_aload_n C hl 0 rfl rfl dX1_firstAbove_32 ?_
        refine gf_6_1 C P ht0 wd_66 dX1_firstAbove_33 ?_
        refine r_iload_n C hl 3 rfl rfl dX1_firstAbove_36 ?_
        refine r_iald C P (k := 7) (i := t0) (n := 10) (fun _ _ => rfl) ht0 dX1_firstAbove_37 hf (fun hf => ?_)
        refine r_iload_n C hl 1 rfl rfl dX1_firstAbove_38 ?_
        refine r_jn (fun k61 : Int32 → Int32 → Option Int32 => ∀ (v2_6 : Int32) (v3_7 : Int32) H1 L1 ls, Hp G o s H1 L1 → lv_has ls 5 [(0, .ref (rA G 6 t0)), (1, .int v1), (2, .int v2_6), (3, .int v3_7), (4, .int v4_5)] → k61 v2_6 v3_7 = some r → W p l e rmX1_firstAbove s m args below meth c H1 L1 0 0 (Qm G (some (.int r)) o rmX1_firstAbove below args s) (F0 m 61 ls [])) hf ?_ (fun k61 j61 hf => ?_)
        · intro v2_6 v3_7 H1 L1 ls  P hl hf
          refine r_iinc C (fun v4_8 => [(4, .int v4_8), (0, .ref (rA G 6 t0)), (1, .int v1), (2, .int v2_6), (3, .int v3_7)]) (w := 1) 4 hl rfl (by decide) (by decide) (fun _ => rfl) dX1_firstAbove_61 hf (fun v4_8 ls hl hf => ?_)
          refine r_goto C dX1_firstAbove_64 ?_
          exact ih v2_6 v3_7 v4_8 _ _ _ P (lv_sub hl [1, 2, 3, 4, 0] rfl) hf
        refine r_icmp_le C dX1_firstAbove_39 hf (fun hf => ?_) (fun hf => ?_)
        · refine r_aload_n C hl 0 rfl rfl dX1_firstAbove_54 ?_
          refine gf_6_5 C P ht0 wd_74 dX1_firstAbove_55 ?_
          refine r_iload_n C hl 3 rfl rfl dX1_firstAbove_58 ?_
          refine r_iald C P (k := 11) (i := t0) (n := 10) (fun _ _ => rfl) ht0 dX1_firstAbove_59 hf (fun hf => ?_)
          refine r_bdi hf (fun v3_9 hf => ?_)
          refine r_istore_n C [(3, .int v3_9), (0, .ref (rA G 6 t0)), (1, .int v1), (2, .int v2_3), (4, .int v4_5)] hl (by decide) rfl rfl dX1_firstAbove_60 (fun ls hl => ?_)
          exact j61 v2_3 v3_9 _ _ _ P (lv_sub hl [1, 2, 3, 0, 4] rfl) hf
        · refine r_iload_n C hl 3 rfl rfl dX1_firstAbove_42 ?_
          refine r_istore_n C [(2, .int v3_4), (0, .ref (rA G 6 t0)), (1, .int v1), (3, .int v3_4), (4, .int v4_5)] hl (by decide) rfl rfl dX1_firstAbove_43 (fun ls hl => ?_)
          refine r_aload_n C hl 1 rfl rfl dX1_firstAbove_44 ?_
          refine gf_6_4 C P ht0 wd_73 dX1_firstAbove_45 ?_
          refine r_iload_n C hl 3 rfl rfl dX1_firstAbove_48 ?_
          refine r_iald C P (k := 10) (i := t0) (n := 10) (fun _ _ => rfl) ht0 dX1_firstAbove_49 hf (fun hf => ?_)
          refine r_bdi hf (fun v3_10 hf => ?_)
          refine r_istore_n C [(3, .int v3_10), (2, .int v3_4), (0, .ref (rA G 6 t0)), (1, .int v1), (4, .int v4_5)] hl (by decide) rfl rfl dX1_firstAbove_50 (fun ls hl => ?_)
          refine r_goto C dX1_firstAbove_51 ?_
          exact j61 v3_4 v3_10 _ _ _ P (lv_sub hl [2, 3, 1, 0, 4] rfl) hf
set_option maxHeartbeats 4000000 in
set_option maxRecDepth 100000 in
theorem wX1_firstAbove {G : Gd} {p : Program} {l : Launch} {e : Env} {s : State} {m : MethodId} {args : Array Value} {below : List Frame} {meth : Method} {c : Code} {o : OM} {H : Heap} {L0 : List Loc} {ls : Array Slot} {r : Int32} {t0 : Nat} {v1 : Int32} (C : Cx G RX1 cX1_firstAbove 5 (some .int) p s m args meth c) (ht0 : okb 6 t0 = true) (P : Hp G o s H L0) (hl : lv_has ls 5 [(0, .ref (rA G 6 t0)), (1, .int v1)]) (hf : F_X1_firstAbove o t0 v1 = some r) : W p l e rmX1_firstAbove s m args below meth c H L0 0 0 (Qm G (some (.int r)) o rmX1_firstAbove below args s) (F0 m 0 ls []) := by
  unfold F_X1_firstAbove at hf
  refine r_iconst C (v := -1) (by decide) dX1_firstAbove_0 ?_
  refine r_istore_n C [(2, .int ((-1 : Int32))), (0, .ref (rA G 6 t0)), (1, .int v1)] hl (by decide) rfl rfl dX1_firstAbove_1 (fun ls hl => ?_)
  refine r_aload_n C hl 1 rfl rfl dX1_firstAbove_2 ?_
  refine gf_6_0 C P ht0 wd_62 dX1_firstAbove_3 ?_
  refine r_jn (fun k14 : Int32 → Option Int32 => ∀ (s_1 : Int32) H1 L1 ls, Hp G o s H1 L1 → lv_has ls 5 [(0, .ref (rA G 6 t0)), (1, .int v1), (2, .int ((-1 : Int32)))] → k14 s_1 = some r → W p l e rmX1_firstAbove s m args below meth c H1 L1 0 0 (Qm G (some (.int r)) o rmX1_firstAbove below args s) (F0 m 14 ls [.int s_1])) hf ?_ (fun k14 j14 hf => ?_)
  · intro s_1 H1 L1 ls  P hl hf
    refine r_istore_n C [(3, .int s_1), (0, .ref (rA G 6 t0)), (1, .int v1), (2, .int ((-1 : Int32)))] hl (by decide) rfl rfl dX1_firstAbove_14 (fun ls hl => ?_)
    refine r_iconst C (v := 0) (by decide) dX1_firstAbove_15 ?_
    refine r_istore C [(4, .int ((0 : Int32))), (3, .int s_1), (0, .ref (rA G 6 t0)), (1, .int v1), (2, .int ((-1 : Int32)))] hl (by decide) rfl dX1_firstAbove_16 (fun ls hl => ?_)
    refine r_jn (fun k67 : Int32 → Option Int32 => ∀ (v2_2 : Int32) H1 L1 ls, Hp G o s H1 L1 → lv_has ls 5 [(2, .int v2_2)] → k67 v2_2 = some r → W p l e rmX1_firstAbove s m args below meth c H1 L1 0 0 (Qm G (some (.int r)) o rmX1_firstAbove below args s) (F0 m 67 ls [])) hf ?_ (fun k67 j67 hf => ?_)
    · intro v2_2 H1 L1 ls  P hl hf
      refine r_iload_n C hl 0 rfl rfl dX1_firstAbove_67 ?_
      exact q_iret C P (rm := rmX1_firstAbove) ⟨rfl, rfl⟩ dX1_firstAbove_68 hf
    exact lX1_firstAbove_18 C ht0 j67 FU ((-1 : Int32)) s_1 ((0 : Int32)) _ _ _ P (lv_sub hl [2, 3, 4, 1, 0] rfl) hf
  refine r_if_le C dX1_firstAbove_6 hf (fun hf => ?_) (fun hf => ?_)
  · refine r_iconst C (v := -1) (by decide) dX1_firstAbove_13 ?_
    exact j14 ((-1 : Int32)) _ _ _ P (lv_sub hl [1, 2, 0] rfl) hf
  · refine r_iconst C (v := 0) (by decide) dX1_firstAbove_9 ?_
    refine r_goto C dX1_firstAbove_10 ?_
    exact j14 ((0 : Int32)) _ _ _ P (lv_sub hl [1, 2, 0] rfl) hf
theorem ctX1_firstAbove (l : Launch) (G : Gd) (o : OM) (t0 : Nat) (v1 : Int32) (ht0 : okb 6 t0 = true) {r : Int32} (hf : F_X1_firstAbove o t0 v1 = some r) : Ct l yX1_firstAbove cX1_firstAbove 5 (some .int) rmX1_firstAbove G [.ref (rA G 6 t0), .int v1] o (some (.int r)) o := ct_of (by decide +kernel) (Nat.le_of_ble_eq_true rfl) (fun p e s m below meth c ls C P hl => wX1_firstAbove C ht0 P hl hf)
theorem dJ9_floorDiv_7cf53_0 : Dc cJ9_floorDiv_7cf53 0 (.iload_n 0) 1 1 := ⟨by decide +kernel, rfl⟩
theorem dJ9_floorDiv_7cf53_1 : Dc cJ9_floorDiv_7cf53 1 (.iload_n 1) 1 2 := ⟨by decide +kernel, rfl⟩
theorem dJ9_floorDiv_7cf53_2 : Dc cJ9_floorDiv_7cf53 2 (.idiv) 1 3 := ⟨by decide +kernel, rfl⟩
theorem dJ9_floorDiv_7cf53_3 : Dc cJ9_floorDiv_7cf53 3 (.istore_n 2) 1 4 := ⟨by decide +kernel, rfl⟩
theorem dJ9_floorDiv_7cf53_4 : Dc cJ9_floorDiv_7cf53 4 (.iload_n 0) 1 5 := ⟨by decide +kernel, rfl⟩
theorem dJ9_floorDiv_7cf53_5 : Dc cJ9_floorDiv_7cf53 5 (.iload_n 1) 1 6 := ⟨by decide +kernel, rfl⟩
theorem dJ9_floorDiv_7cf53_6 : Dc cJ9_floorDiv_7cf53 6 (.ixor) 1 7 := ⟨by decide +kernel, rfl⟩
theorem dJ9_floorDiv_7cf53_7 : Dj cJ9_floorDiv_7cf53 7 (.ifCond .ge 14) 3 10 (14) 21 := ⟨by decide +kernel, rfl, by decide⟩
theorem dJ9_floorDiv_7cf53_10 : Dc cJ9_floorDiv_7cf53 10 (.iload_n 2) 1 11 := ⟨by decide +kernel, rfl⟩
theorem dJ9_floorDiv_7cf53_11 : Dc cJ9_floorDiv_7cf53 11 (.iload_n 1) 1 12 := ⟨by decide +kernel, rfl⟩
theorem dJ9_floorDiv_7cf53_12 : Dc cJ9_floorDiv_7cf53 12 (.imul) 1 13 := ⟨by decide +kernel, rfl⟩
theorem dJ9_floorDiv_7cf53_13 : Dc cJ9_floorDiv_7cf53 13 (.iload_n 0) 1 14 := ⟨by decide +kernel, rfl⟩
theorem dJ9_floorDiv_7cf53_14 : Dj cJ9_floorDiv_7cf53 14 (.if_icmp .eq 7) 3 17 (7) 21 := ⟨by decide +kernel, rfl, by decide⟩
theorem dJ9_floorDiv_7cf53_17 : Dc cJ9_floorDiv_7cf53 17 (.iload_n 2) 1 18 := ⟨by decide +kernel, rfl⟩
theorem dJ9_floorDiv_7cf53_18 : Dc cJ9_floorDiv_7cf53 18 (.iconst 1) 1 19 := ⟨by decide +kernel, rfl⟩
theorem dJ9_floorDiv_7cf53_19 : Dc cJ9_floorDiv_7cf53 19 (.isub) 1 20 := ⟨by decide +kernel, rfl⟩
theorem dJ9_floorDiv_7cf53_20 : Dc cJ9_floorDiv_7cf53 20 (.ireturn) 1 21 := ⟨by decide +kernel, rfl⟩
theorem dJ9_floorDiv_7cf53_21 : Dc cJ9_floorDiv_7cf53 21 (.iload_n 2) 1 22 := ⟨by decide +kernel, rfl⟩
theorem dJ9_floorDiv_7cf53_22 : Dc cJ9_floorDiv_7cf53 22 (.ireturn) 1 23 := ⟨by decide +kernel, rfl⟩
def F_J9_floorDiv_7cf53 (o : OM) (v0 : Int32) (v1 : Int32) : Option Int32 := grd (decide (¬ v1 = 0)) (bd (v0 / v1) (fun v2_1 : Int32 => bd (fun (_ : Unit) => some v2_1) (fun k21 => if 0 ≤ (v0 ^^^ v1) then (k21 ()) else (if (v2_1 * v1) = v0 then (k21 ()) else (some (v2_1 - ((1 : Int32))))))))
abbrev rmJ9_floorDiv_7cf53 : Room := { frames := 0, cells := 0, slots := 0, locals := 0 }
set_option maxHeartbeats 4000000 in
set_option maxRecDepth 100000 in
theorem wJ9_floorDiv_7cf53 {G : Gd} {p : Program} {l : Launch} {e : Env} {s : State} {m : MethodId} {args : Array Value} {below : List Frame} {meth : Method} {c : Code} {o : OM} {H : Heap} {L0 : List Loc} {ls : Array Slot} {r : Int32} {v0 : Int32} {v1 : Int32} (C : Cx G RJ9 cJ9_floorDiv_7cf53 3 (some .int) p s m args meth c)  (P : Hp G o s H L0) (hl : lv_has ls 3 [(0, .int v0), (1, .int v1)]) (hf : F_J9_floorDiv_7cf53 o v0 v1 = some r) : W p l e rmJ9_floorDiv_7cf53 s m args below meth c H L0 0 0 (Qm G (some (.int r)) o rmJ9_floorDiv_7cf53 below args s) (F0 m 0 ls []) := by
  unfold F_J9_floorDiv_7cf53 at hf
  refine r_iload_n C hl 0 rfl rfl dJ9_floorDiv_7cf53_0 ?_
  refine r_iload_n C hl 1 rfl rfl dJ9_floorDiv_7cf53_1 ?_
  refine r_idiv C dJ9_floorDiv_7cf53_2 hf (fun hf => ?_)
  refine r_bdi hf (fun v2_1 hf => ?_)
  refine r_istore_n C [(2, .int v2_1), (0, .int v0), (1, .int v1)] hl (by decide) rfl rfl dJ9_floorDiv_7cf53_3 (fun ls hl => ?_)
  refine r_iload_n C hl 1 rfl rfl dJ9_floorDiv_7cf53_4 ?_
  refine r_iload_n C hl 2 rfl rfl dJ9_floorDiv_7cf53_5 ?_
  refine r_ixor C dJ9_floorDiv_7cf53_6 ?_
  refine r_jn (fun k21 : Unit → Option Int32 => ∀ H1 L1 ls, Hp G o s H1 L1 → lv_has ls 3 [(2, .int v2_1)] → k21 () = some r → W p l e rmJ9_floorDiv_7cf53 s m args below meth c H1 L1 0 0 (Qm G (some (.int r)) o rmJ9_floorDiv_7cf53 below args s) (F0 m 21 ls [])) hf ?_ (fun k21 j21 hf => ?_)
  · intro  H1 L1 ls  P hl hf
    refine r_iload_n C hl 0 rfl rfl dJ9_floorDiv_7cf53_21 ?_
    exact q_iret C P (rm := rmJ9_floorDiv_7cf53) ⟨rfl, rfl⟩ dJ9_floorDiv_7cf53_22 hf
  refine r_if_ge C dJ9_floorDiv_7cf53_7 hf (fun hf => ?_) (fun hf => ?_)
  · exact j21  _ _ _ P (lv_sub hl [0] rfl) hf
  · refine r_iload_n C hl 0 rfl rfl dJ9_floorDiv_7cf53_10 ?_
    refine r_iload_n C hl 2 rfl rfl dJ9_floorDiv_7cf53_11 ?_
    refine r_imul C dJ9_floorDiv_7cf53_12 ?_
    refine r_iload_n C hl 1 rfl rfl dJ9_floorDiv_7cf53_13 ?_
    refine r_icmp_eq C dJ9_floorDiv_7cf53_14 hf (fun hf => ?_) (fun hf => ?_)
    · exact j21  _ _ _ P (lv_sub hl [0] rfl) hf
    · refine r_iload_n C hl 0 rfl rfl dJ9_floorDiv_7cf53_17 ?_
      refine r_iconst C (v := 1) (by decide) dJ9_floorDiv_7cf53_18 ?_
      refine r_isub C dJ9_floorDiv_7cf53_19 ?_
      exact q_iret C P (rm := rmJ9_floorDiv_7cf53) ⟨rfl, rfl⟩ dJ9_floorDiv_7cf53_20 hf
theorem ctJ9_floorDiv_7cf53 (l : Launch) (G : Gd) (o : OM) (v0 : Int32) (v1 : Int32)  {r : Int32} (hf : F_J9_floorDiv_7cf53 o v0 v1 = some r) : Ct l yJ9_floorDiv_7cf53 cJ9_floorDiv_7cf53 3 (some .int) rmJ9_floorDiv_7cf53 G [.int v0, .int v1] o (some (.int r)) o := ct_of (by decide +kernel) (Nat.le_of_ble_eq_true rfl) (fun p e s m below meth c ls C P hl => wJ9_floorDiv_7cf53 C  P hl hf)
theorem cf_X1_74 : CallF true RX1 74 yJ9_floorDiv_7cf53 cJ9_floorDiv_7cf53 3 (some .int) 2 := ⟨wd_553, (by rw [if_pos rfl]; exact wd_462), wd_23, wd_463, by decide, by decide +kernel⟩
theorem dX1_onLine_0 : Dc cX1_onLine 0 (.iload_n 1) 1 1 := ⟨by decide +kernel, rfl⟩
theorem dX1_onLine_1 : Dc cX1_onLine 1 (.iconst (-1)) 1 2 := ⟨by decide +kernel, rfl⟩
theorem dX1_onLine_2 : Dj cX1_onLine 2 (.if_icmp .eq 8) 3 5 (8) 10 := ⟨by decide +kernel, rfl, by decide⟩
theorem dX1_onLine_5 : Dc cX1_onLine 5 (.iload_n 2) 1 6 := ⟨by decide +kernel, rfl⟩
theorem dX1_onLine_6 : Dc cX1_onLine 6 (.iconst (-1)) 1 7 := ⟨by decide +kernel, rfl⟩
theorem dX1_onLine_7 : Dj cX1_onLine 7 (.if_icmp .ne 5) 3 10 (5) 12 := ⟨by decide +kernel, rfl, by decide⟩
theorem dX1_onLine_10 : Dc cX1_onLine 10 (.iconst 0) 1 11 := ⟨by decide +kernel, rfl⟩
theorem dX1_onLine_11 : Dc cX1_onLine 11 (.ireturn) 1 12 := ⟨by decide +kernel, rfl⟩
theorem dX1_onLine_12 : Dc cX1_onLine 12 (.aload_n 0) 1 13 := ⟨by decide +kernel, rfl⟩
theorem dX1_onLine_13 : Dc cX1_onLine 13 (.getfield 9) 3 16 := ⟨by decide +kernel, rfl⟩
theorem dX1_onLine_16 : Dc cX1_onLine 16 (.iload_n 2) 1 17 := ⟨by decide +kernel, rfl⟩
theorem dX1_onLine_17 : Dc cX1_onLine 17 (.iaload) 1 18 := ⟨by decide +kernel, rfl⟩
theorem dX1_onLine_18 : Dc cX1_onLine 18 (.aload_n 0) 1 19 := ⟨by decide +kernel, rfl⟩
theorem dX1_onLine_19 : Dc cX1_onLine 19 (.getfield 9) 3 22 := ⟨by decide +kernel, rfl⟩
theorem dX1_onLine_22 : Dc cX1_onLine 22 (.iload_n 1) 1 23 := ⟨by decide +kernel, rfl⟩
theorem dX1_onLine_23 : Dc cX1_onLine 23 (.iaload) 1 24 := ⟨by decide +kernel, rfl⟩
theorem dX1_onLine_24 : Dc cX1_onLine 24 (.isub) 1 25 := ⟨by decide +kernel, rfl⟩
theorem dX1_onLine_25 : Dc cX1_onLine 25 (.istore 4) 2 27 := ⟨by decide +kernel, rfl⟩
theorem dX1_onLine_27 : Dc cX1_onLine 27 (.iload 4) 2 29 := ⟨by decide +kernel, rfl⟩
theorem dX1_onLine_29 : Dj cX1_onLine 29 (.ifCond .gt 10) 3 32 (10) 39 := ⟨by decide +kernel, rfl, by decide⟩
theorem dX1_onLine_32 : Dc cX1_onLine 32 (.aload_n 0) 1 33 := ⟨by decide +kernel, rfl⟩
theorem dX1_onLine_33 : Dc cX1_onLine 33 (.getfield 15) 3 36 := ⟨by decide +kernel, rfl⟩
theorem dX1_onLine_36 : Dc cX1_onLine 36 (.iload_n 1) 1 37 := ⟨by decide +kernel, rfl⟩
theorem dX1_onLine_37 : Dc cX1_onLine 37 (.iaload) 1 38 := ⟨by decide +kernel, rfl⟩
theorem dX1_onLine_38 : Dc cX1_onLine 38 (.ireturn) 1 39 := ⟨by decide +kernel, rfl⟩
theorem dX1_onLine_39 : Dc cX1_onLine 39 (.aload_n 0) 1 40 := ⟨by decide +kernel, rfl⟩
theorem dX1_onLine_40 : Dc cX1_onLine 40 (.getfield 15) 3 43 := ⟨by decide +kernel, rfl⟩
theorem dX1_onLine_43 : Dc cX1_onLine 43 (.iload_n 2) 1 44 := ⟨by decide +kernel, rfl⟩
theorem dX1_onLine_44 : Dc cX1_onLine 44 (.iaload) 1 45 := ⟨by decide +kernel, rfl⟩
theorem dX1_onLine_45 : Dc cX1_onLine 45 (.aload_n 0) 1 46 := ⟨by decide +kernel, rfl⟩
theorem dX1_onLine_46 : Dc cX1_onLine 46 (.getfield 15) 3 49 := ⟨by decide +kernel, rfl⟩
theorem dX1_onLine_49 : Dc cX1_onLine 49 (.iload_n 1) 1 50 := ⟨by decide +kernel, rfl⟩
theorem dX1_onLine_50 : Dc cX1_onLine 50 (.iaload) 1 51 := ⟨by decide +kernel, rfl⟩
theorem dX1_onLine_51 : Dc cX1_onLine 51 (.isub) 1 52 := ⟨by decide +kernel, rfl⟩
theorem dX1_onLine_52 : Dc cX1_onLine 52 (.iload_n 3) 1 53 := ⟨by decide +kernel, rfl⟩
theorem dX1_onLine_53 : Dc cX1_onLine 53 (.aload_n 0) 1 54 := ⟨by decide +kernel, rfl⟩
theorem dX1_onLine_54 : Dc cX1_onLine 54 (.getfield 9) 3 57 := ⟨by decide +kernel, rfl⟩
theorem dX1_onLine_57 : Dc cX1_onLine 57 (.iload_n 1) 1 58 := ⟨by decide +kernel, rfl⟩
theorem dX1_onLine_58 : Dc cX1_onLine 58 (.iaload) 1 59 := ⟨by decide +kernel, rfl⟩
theorem dX1_onLine_59 : Dc cX1_onLine 59 (.isub) 1 60 := ⟨by decide +kernel, rfl⟩
theorem dX1_onLine_60 : Dc cX1_onLine 60 (.imul) 1 61 := ⟨by decide +kernel, rfl⟩
theorem dX1_onLine_61 : Dc cX1_onLine 61 (.istore 5) 2 63 := ⟨by decide +kernel, rfl⟩
theorem dX1_onLine_63 : Dc cX1_onLine 63 (.aload_n 0) 1 64 := ⟨by decide +kernel, rfl⟩
theorem dX1_onLine_64 : Dc cX1_onLine 64 (.getfield 15) 3 67 := ⟨by decide +kernel, rfl⟩
theorem dX1_onLine_67 : Dc cX1_onLine 67 (.iload_n 1) 1 68 := ⟨by decide +kernel, rfl⟩
theorem dX1_onLine_68 : Dc cX1_onLine 68 (.iaload) 1 69 := ⟨by decide +kernel, rfl⟩
theorem dX1_onLine_69 : Dc cX1_onLine 69 (.iload 5) 2 71 := ⟨by decide +kernel, rfl⟩
theorem dX1_onLine_71 : Dc cX1_onLine 71 (.iload 4) 2 73 := ⟨by decide +kernel, rfl⟩
theorem dX1_onLine_73 : Dc cX1_onLine 73 (.invokestatic 74) 3 76 := ⟨by decide +kernel, rfl⟩
theorem dX1_onLine_76 : Dc cX1_onLine 76 (.iadd) 1 77 := ⟨by decide +kernel, rfl⟩
theorem dX1_onLine_77 : Dc cX1_onLine 77 (.ireturn) 1 78 := ⟨by decide +kernel, rfl⟩
def F_X1_onLine (o : OM) (t0 : Nat) (v1 : Int32) (v2 : Int32) (v3 : Int32) : Option Int32 := bd (fun (_ : Unit) => some ((0 : Int32))) (fun k10 => if v1 = ((-1 : Int32)) then (k10 ()) else (if v2 = ((-1 : Int32)) then (k10 ()) else (grd (inB v2 10) (grd (inB v1 10) (bd ((rd o 7 t0 v2.toNatClampNeg) - (rd o 7 t0 v1.toNatClampNeg)) (fun v4_1 : Int32 => if 0 < v4_1 then (grd (inB v2 10) (grd (inB v1 10) (grd (inB v1 10) (bd (((rd o 8 t0 v2.toNatClampNeg) - (rd o 8 t0 v1.toNatClampNeg)) * (v3 - (rd o 7 t0 v1.toNatClampNeg))) (fun v5_2 : Int32 => grd (inB v1 10) (bq (F_J9_floorDiv_7cf53 o v5_2 v4_1) (fun r_3 => some ((rd o 8 t0 v1.toNatClampNeg) + r_3)))))))) else (grd (inB v1 10) (some (rd o 8 t0 v1.toNatClampNeg)))))))))
abbrev rmX1_onLine : Room := { frames := 1, cells := 0, slots := 0, locals := 22 }
set_option maxHeartbeats 4000000 in
set_option maxRecDepth 100000 in
theorem wX1_onLine {G : Gd} {p : Program} {l : Launch} {e : Env} {s : State} {m : MethodId} {args : Array Value} {below : List Frame} {meth : Method} {c : Code} {o : OM} {H : Heap} {L0 : List Loc} {ls : Array Slot} {r : Int32} {t0 : Nat} {v1 : Int32} {v2 : Int32} {v3 : Int32} (C : Cx G RX1 cX1_onLine 6 (some .int) p s m args meth c) (ht0 : okb 6 t0 = true) (P : Hp G o s H L0) (hl : lv_has ls 6 [(0, .ref (rA G 6 t0)), (1, .int v1), (2, .int v2), (3, .int v3)]) (hf : F_X1_onLine o t0 v1 v2 v3 = some r) : W p l e rmX1_onLine s m args below meth c H L0 0 0 (Qm G (some (.int r)) o rmX1_onLine below args s) (F0 m 0 ls []) := by
  unfold F_X1_onLine at hf
  refine r_iload_n C hl 1 rfl rfl dX1_onLine_0 ?_
  refine r_iconst C (v := -1) (by decide) dX1_onLine_1 ?_
  refine r_jn (fun k10 : Unit → Option Int32 => ∀ H1 L1 ls, Hp G o s H1 L1 → lv_has ls 6 [] → k10 () = some r → W p l e rmX1_onLine s m args below meth c H1 L1 0 0 (Qm G (some (.int r)) o rmX1_onLine below args s) (F0 m 10 ls [])) hf ?_ (fun k10 j10 hf => ?_)
  · intro  H1 L1 ls  P hl hf
    refine r_iconst C (v := 0) (by decide) dX1_onLine_10 ?_
    exact q_iret C P (rm := rmX1_onLine) ⟨rfl, rfl⟩ dX1_onLine_11 hf
  refine r_icmp_eq C dX1_onLine_2 hf (fun hf => ?_) (fun hf => ?_)
  · exact j10  _ _ _ P (lv_sub hl [] rfl) hf
  · refine r_iload_n C hl 2 rfl rfl dX1_onLine_5 ?_
    refine r_iconst C (v := -1) (by decide) dX1_onLine_6 ?_
    refine r_icmp_ne C dX1_onLine_7 hf (fun hf => ?_) (fun hf => ?_)
    · refine r_aload_n C hl 0 rfl rfl dX1_onLine_12 ?_
      refine gf_6_1 C P ht0 wd_66 dX1_onLine_13 ?_
      refine r_iload_n C hl 2 rfl rfl dX1_onLine_16 ?_
      refine r_iald C P (k := 7) (i := t0) (n := 10) (fun _ _ => rfl) ht0 dX1_onLine_17 hf (fun hf => ?_)
      refine r_aload_n C hl 0 rfl rfl dX1_onLine_18 ?_
      refine gf_6_1 C P ht0 wd_66 dX1_onLine_19 ?_
      refine r_iload_n C hl 1 rfl rfl dX1_onLine_22 ?_
      refine r_iald C P (k := 7) (i := t0) (n := 10) (fun _ _ => rfl) ht0 dX1_onLine_23 hf (fun hf => ?_)
      refine r_isub C dX1_onLine_24 ?_
      refine r_bdi hf (fun v4_1 hf => ?_)
      refine r_istore C [(4, .int v4_1), (0, .ref (rA G 6 t0)), (1, .int v1), (2, .int v2), (3, .int v3)] hl (by decide) rfl dX1_onLine_25 (fun ls hl => ?_)
      refine r_iload C hl 0 rfl dX1_onLine_27 ?_
      refine r_if_gt C dX1_onLine_29 hf (fun hf => ?_) (fun hf => ?_)
      · refine r_aload_n C hl 1 rfl rfl dX1_onLine_39 ?_
        refine gf_6_2 C P ht0 wd_68 dX1_onLine_40 ?_
        refine r_iload_n C hl 3 rfl rfl dX1_onLine_43 ?_
        refine r_iald C P (k := 8) (i := t0) (n := 10) (fun _ _ => rfl) ht0 dX1_onLine_44 hf (fun hf => ?_)
        refine r_aload_n C hl 1 rfl rfl dX1_onLine_45 ?_
        refine gf_6_2 C P ht0 wd_68 dX1_onLine_46 ?_
        refine r_iload_n C hl 2 rfl rfl dX1_onLine_49 ?_
        refine r_iald C P (k := 8) (i := t0) (n := 10) (fun _ _ => rfl) ht0 dX1_onLine_50 hf (fun hf => ?_)
        refine r_isub C dX1_onLine_51 ?_
        refine r_iload_n C hl 4 rfl rfl dX1_onLine_52 ?_
        refine r_aload_n C hl 1 rfl rfl dX1_onLine_53 ?_
        refine gf_6_1 C P ht0 wd_66 dX1_onLine_54 ?_
        refine r_iload_n C hl 2 rfl rfl dX1_onLine_57 ?_
        refine r_iald C P (k := 7) (i := t0) (n := 10) (fun _ _ => rfl) ht0 dX1_onLine_58 hf (fun hf => ?_)
        refine r_isub C dX1_onLine_59 ?_
        refine r_imul C dX1_onLine_60 ?_
        refine r_bdi hf (fun v5_2 hf => ?_)
        refine r_istore C [(5, .int v5_2), (4, .int v4_1), (0, .ref (rA G 6 t0)), (1, .int v1), (2, .int v2), (3, .int v3)] hl (by decide) rfl dX1_onLine_61 (fun ls hl => ?_)
        refine r_aload_n C hl 2 rfl rfl dX1_onLine_63 ?_
        refine gf_6_2 C P ht0 wd_68 dX1_onLine_64 ?_
        refine r_iload_n C hl 3 rfl rfl dX1_onLine_67 ?_
        refine r_iald C P (k := 8) (i := t0) (n := 10) (fun _ _ => rfl) ht0 dX1_onLine_68 hf (fun hf => ?_)
        refine r_iload C hl 0 rfl dX1_onLine_69 ?_
        refine r_iload C hl 1 rfl dX1_onLine_71 ?_
        refine r_qSi C P cf_X1_74 (rm := rmJ9_floorDiv_7cf53) [.int v5_2, .int v4_1] [.int (rd o 8 t0 v1.toNatClampNeg)] hf (fun _ h => ctJ9_floorDiv_7cf53 l G o v5_2 v4_1 h) ⟨rfl, rfl⟩ ⟨Nat.le_of_ble_eq_true rfl, Nat.le_of_ble_eq_true rfl⟩ ⟨Nat.le_of_ble_eq_true rfl, Nat.le_of_ble_eq_true rfl⟩ rfl rfl hl.1 (Nat.le_of_ble_eq_true rfl) dX1_onLine_73 (fun r_3 H1 L1 P hf => ?_)
        refine r_iadd2 C dX1_onLine_76 ?_
        exact q_iret C P (rm := rmX1_onLine) ⟨rfl, rfl⟩ dX1_onLine_77 hf
      · refine r_aload_n C hl 1 rfl rfl dX1_onLine_32 ?_
        refine gf_6_2 C P ht0 wd_68 dX1_onLine_33 ?_
        refine r_iload_n C hl 2 rfl rfl dX1_onLine_36 ?_
        refine r_iald C P (k := 8) (i := t0) (n := 10) (fun _ _ => rfl) ht0 dX1_onLine_37 hf (fun hf => ?_)
        exact q_iret C P (rm := rmX1_onLine) ⟨rfl, rfl⟩ dX1_onLine_38 hf
    · exact j10  _ _ _ P (lv_sub hl [] rfl) hf
theorem ctX1_onLine (l : Launch) (G : Gd) (o : OM) (t0 : Nat) (v1 : Int32) (v2 : Int32) (v3 : Int32) (ht0 : okb 6 t0 = true) {r : Int32} (hf : F_X1_onLine o t0 v1 v2 v3 = some r) : Ct l yX1_onLine cX1_onLine 6 (some .int) rmX1_onLine G [.ref (rA G 6 t0), .int v1, .int v2, .int v3] o (some (.int r)) o := ct_of (by decide +kernel) (Nat.le_of_ble_eq_true rfl) (fun p e s m below meth c ls C P hl => wX1_onLine C ht0 P hl hf)
theorem cf_X1_64 : CallF false RX1 64 yX1_lastUpTo cX1_lastUpTo 5 (some .int) 1 := ⟨wd_541, (by rw [if_neg (by decide)]; exact ⟨wd_543, wd_6⟩), wd_13, wd_544, by decide, by decide +kernel⟩
theorem cf_X1_67 : CallF false RX1 67 yX1_firstAbove cX1_firstAbove 5 (some .int) 1 := ⟨wd_545, (by rw [if_neg (by decide)]; exact ⟨wd_547, wd_7⟩), wd_13, wd_548, by decide, by decide +kernel⟩
theorem cf_X1_70 : CallF false RX1 70 yX1_onLine cX1_onLine 6 (some .int) 3 := ⟨wd_549, (by rw [if_neg (by decide)]; exact ⟨wd_551, wd_8⟩), wd_13, wd_552, by decide, by decide +kernel⟩
theorem dX1_correctByTree_0 : Dc cX1_correctByTree 0 (.aload_n 0) 1 1 := ⟨by decide +kernel, rfl⟩
theorem dX1_correctByTree_1 : Dc cX1_correctByTree 1 (.iload_n 1) 1 2 := ⟨by decide +kernel, rfl⟩
theorem dX1_correctByTree_2 : Dc cX1_correctByTree 2 (.invokevirtual 64) 3 5 := ⟨by decide +kernel, rfl⟩
theorem dX1_correctByTree_5 : Dc cX1_correctByTree 5 (.istore_n 2) 1 6 := ⟨by decide +kernel, rfl⟩
theorem dX1_correctByTree_6 : Dc cX1_correctByTree 6 (.aload_n 0) 1 7 := ⟨by decide +kernel, rfl⟩
theorem dX1_correctByTree_7 : Dc cX1_correctByTree 7 (.iload_n 1) 1 8 := ⟨by decide +kernel, rfl⟩
theorem dX1_correctByTree_8 : Dc cX1_correctByTree 8 (.invokevirtual 67) 3 11 := ⟨by decide +kernel, rfl⟩
theorem dX1_correctByTree_11 : Dc cX1_correctByTree 11 (.istore_n 3) 1 12 := ⟨by decide +kernel, rfl⟩
theorem dX1_correctByTree_12 : Dc cX1_correctByTree 12 (.iload_n 2) 1 13 := ⟨by decide +kernel, rfl⟩
theorem dX1_correctByTree_13 : Dc cX1_correctByTree 13 (.iconst (-1)) 1 14 := ⟨by decide +kernel, rfl⟩
theorem dX1_correctByTree_14 : Dj cX1_correctByTree 14 (.if_icmp .ne 24) 3 17 (24) 38 := ⟨by decide +kernel, rfl, by decide⟩
theorem dX1_correctByTree_17 : Dc cX1_correctByTree 17 (.iload_n 3) 1 18 := ⟨by decide +kernel, rfl⟩
theorem dX1_correctByTree_18 : Dc cX1_correctByTree 18 (.iconst (-1)) 1 19 := ⟨by decide +kernel, rfl⟩
theorem dX1_correctByTree_19 : Dj cX1_correctByTree 19 (.if_icmp .eq 19) 3 22 (19) 38 := ⟨by decide +kernel, rfl, by decide⟩
theorem dX1_correctByTree_22 : Dc cX1_correctByTree 22 (.iload_n 3) 1 23 := ⟨by decide +kernel, rfl⟩
theorem dX1_correctByTree_23 : Dc cX1_correctByTree 23 (.istore_n 2) 1 24 := ⟨by decide +kernel, rfl⟩
theorem dX1_correctByTree_24 : Dc cX1_correctByTree 24 (.aload_n 0) 1 25 := ⟨by decide +kernel, rfl⟩
theorem dX1_correctByTree_25 : Dc cX1_correctByTree 25 (.aload_n 0) 1 26 := ⟨by decide +kernel, rfl⟩
theorem dX1_correctByTree_26 : Dc cX1_correctByTree 26 (.getfield 9) 3 29 := ⟨by decide +kernel, rfl⟩
theorem dX1_correctByTree_29 : Dc cX1_correctByTree 29 (.iload_n 2) 1 30 := ⟨by decide +kernel, rfl⟩
theorem dX1_correctByTree_30 : Dc cX1_correctByTree 30 (.iaload) 1 31 := ⟨by decide +kernel, rfl⟩
theorem dX1_correctByTree_31 : Dc cX1_correctByTree 31 (.invokevirtual 67) 3 34 := ⟨by decide +kernel, rfl⟩
theorem dX1_correctByTree_34 : Dc cX1_correctByTree 34 (.istore_n 3) 1 35 := ⟨by decide +kernel, rfl⟩
theorem dX1_correctByTree_35 : Dj cX1_correctByTree 35 (.goto 28) 3 38 (28) 63 := ⟨by decide +kernel, rfl, by decide⟩
theorem dX1_correctByTree_38 : Dc cX1_correctByTree 38 (.iload_n 3) 1 39 := ⟨by decide +kernel, rfl⟩
theorem dX1_correctByTree_39 : Dc cX1_correctByTree 39 (.iconst (-1)) 1 40 := ⟨by decide +kernel, rfl⟩
theorem dX1_correctByTree_40 : Dj cX1_correctByTree 40 (.if_icmp .ne 23) 3 43 (23) 63 := ⟨by decide +kernel, rfl, by decide⟩
theorem dX1_correctByTree_43 : Dc cX1_correctByTree 43 (.iload_n 2) 1 44 := ⟨by decide +kernel, rfl⟩
theorem dX1_correctByTree_44 : Dc cX1_correctByTree 44 (.iconst (-1)) 1 45 := ⟨by decide +kernel, rfl⟩
theorem dX1_correctByTree_45 : Dj cX1_correctByTree 45 (.if_icmp .eq 18) 3 48 (18) 63 := ⟨by decide +kernel, rfl, by decide⟩
theorem dX1_correctByTree_48 : Dc cX1_correctByTree 48 (.iload_n 2) 1 49 := ⟨by decide +kernel, rfl⟩
theorem dX1_correctByTree_49 : Dc cX1_correctByTree 49 (.istore_n 3) 1 50 := ⟨by decide +kernel, rfl⟩
theorem dX1_correctByTree_50 : Dc cX1_correctByTree 50 (.aload_n 0) 1 51 := ⟨by decide +kernel, rfl⟩
theorem dX1_correctByTree_51 : Dc cX1_correctByTree 51 (.aload_n 0) 1 52 := ⟨by decide +kernel, rfl⟩
theorem dX1_correctByTree_52 : Dc cX1_correctByTree 52 (.getfield 9) 3 55 := ⟨by decide +kernel, rfl⟩
theorem dX1_correctByTree_55 : Dc cX1_correctByTree 55 (.iload_n 3) 1 56 := ⟨by decide +kernel, rfl⟩
theorem dX1_correctByTree_56 : Dc cX1_correctByTree 56 (.iaload) 1 57 := ⟨by decide +kernel, rfl⟩
theorem dX1_correctByTree_57 : Dc cX1_correctByTree 57 (.iconst 1) 1 58 := ⟨by decide +kernel, rfl⟩
theorem dX1_correctByTree_58 : Dc cX1_correctByTree 58 (.isub) 1 59 := ⟨by decide +kernel, rfl⟩
theorem dX1_correctByTree_59 : Dc cX1_correctByTree 59 (.invokevirtual 64) 3 62 := ⟨by decide +kernel, rfl⟩
theorem dX1_correctByTree_62 : Dc cX1_correctByTree 62 (.istore_n 2) 1 63 := ⟨by decide +kernel, rfl⟩
theorem dX1_correctByTree_63 : Dc cX1_correctByTree 63 (.aload_n 0) 1 64 := ⟨by decide +kernel, rfl⟩
theorem dX1_correctByTree_64 : Dc cX1_correctByTree 64 (.iload_n 2) 1 65 := ⟨by decide +kernel, rfl⟩
theorem dX1_correctByTree_65 : Dc cX1_correctByTree 65 (.iload_n 3) 1 66 := ⟨by decide +kernel, rfl⟩
theorem dX1_correctByTree_66 : Dc cX1_correctByTree 66 (.iload_n 1) 1 67 := ⟨by decide +kernel, rfl⟩
theorem dX1_correctByTree_67 : Dc cX1_correctByTree 67 (.invokevirtual 70) 3 70 := ⟨by decide +kernel, rfl⟩
theorem dX1_correctByTree_70 : Dc cX1_correctByTree 70 (.ireturn) 1 71 := ⟨by decide +kernel, rfl⟩
def F_X1_correctByTree (o : OM) (t0 : Nat) (v1 : Int32) : Option Int32 := bq (F_X1_lastUpTo o t0 v1) (fun r_1 => bq (F_X1_firstAbove o t0 v1) (fun r_2 => bd (fun (v2_3 : Int32) (v3_4 : Int32) => bq (F_X1_onLine o t0 v2_3 v3_4 v1) (fun r_5 => some r_5)) (fun k63 => bd (fun (_ : Unit) => if r_2 = ((-1 : Int32)) then (if r_1 = ((-1 : Int32)) then (k63 r_1 r_2) else (grd (inB r_1 10) (bq (F_X1_lastUpTo o t0 ((rd o 7 t0 r_1.toNatClampNeg) - ((1 : Int32)))) (fun r_6 => k63 r_6 r_1)))) else (k63 r_1 r_2)) (fun k38 => if r_1 = ((-1 : Int32)) then (if r_2 = ((-1 : Int32)) then (k38 ()) else (grd (inB r_2 10) (bq (F_X1_firstAbove o t0 (rd o 7 t0 r_2.toNatClampNeg)) (fun r_7 => k63 r_2 r_7)))) else (k38 ())))))
abbrev rmX1_correctByTree : Room := { frames := 2, cells := 0, slots := 0, locals := 47 }
set_option maxHeartbeats 4000000 in
set_option maxRecDepth 100000 in
theorem wX1_correctByTree {G : Gd} {p : Program} {l : Launch} {e : Env} {s : State} {m : MethodId} {args : Array Value} {below : List Frame} {meth : Method} {c : Code} {o : OM} {H : Heap} {L0 : List Loc} {ls : Array Slot} {r : Int32} {t0 : Nat} {v1 : Int32} (C : Cx G RX1 cX1_correctByTree 4 (some .int) p s m args meth c) (ht0 : okb 6 t0 = true) (P : Hp G o s H L0) (hl : lv_has ls 4 [(0, .ref (rA G 6 t0)), (1, .int v1)]) (hf : F_X1_correctByTree o t0 v1 = some r) : W p l e rmX1_correctByTree s m args below meth c H L0 0 0 (Qm G (some (.int r)) o rmX1_correctByTree below args s) (F0 m 0 ls []) := by
  unfold F_X1_correctByTree at hf
  refine r_aload_n C hl 0 rfl rfl dX1_correctByTree_0 ?_
  refine r_iload_n C hl 1 rfl rfl dX1_correctByTree_1 ?_
  refine r_qVi C P cf_X1_64 (rm := rmX1_lastUpTo) 6 t0 (fun _ _ => ⟨_, rfl⟩) rfl rfl ht0 [.int v1] [] hf (fun _ h => ctX1_lastUpTo l G o t0 v1 ht0 h) ⟨rfl, rfl⟩ ⟨Nat.le_of_ble_eq_true rfl, Nat.le_of_ble_eq_true rfl⟩ ⟨Nat.le_of_ble_eq_true rfl, Nat.le_of_ble_eq_true rfl⟩ rfl rfl hl.1 (Nat.le_of_ble_eq_true rfl) dX1_correctByTree_2 (fun r_1 H1 L1 P hf => ?_)
  refine r_istore_n C [(2, .int r_1), (0, .ref (rA G 6 t0)), (1, .int v1)] hl (by decide) rfl rfl dX1_correctByTree_5 (fun ls hl => ?_)
  refine r_aload_n C hl 1 rfl rfl dX1_correctByTree_6 ?_
  refine r_iload_n C hl 2 rfl rfl dX1_correctByTree_7 ?_
  refine r_qVi C P cf_X1_67 (rm := rmX1_firstAbove) 6 t0 (fun _ _ => ⟨_, rfl⟩) rfl rfl ht0 [.int v1] [] hf (fun _ h => ctX1_firstAbove l G o t0 v1 ht0 h) ⟨rfl, rfl⟩ ⟨Nat.le_of_ble_eq_true rfl, Nat.le_of_ble_eq_true rfl⟩ ⟨Nat.le_of_ble_eq_true rfl, Nat.le_of_ble_eq_true rfl⟩ rfl rfl hl.1 (Nat.le_of_ble_eq_true rfl) dX1_correctByTree_8 (fun r_2 H1 L1 P hf => ?_)
  refine r_istore_n C [(3, .int r_2), (2, .int r_1), (0, .ref (rA G 6 t0)), (1, .int v1)] hl (by decide) rfl rfl dX1_correctByTree_11 (fun ls hl => ?_)
  refine r_iload_n C hl 1 rfl rfl dX1_correctByTree_12 ?_
  refine r_iconst C (v := -1) (by decide) dX1_correctByTree_13 ?_
  refine r_jn (fun k63 : Int32 → Int32 → Option Int32 => ∀ (v2_3 : Int32) (v3_4 : Int32) H1 L1 ls, Hp G o s H1 L1 → lv_has ls 4 [(0, .ref (rA G 6 t0)), (1, .int v1), (2, .int v2_3), (3, .int v3_4)] → k63 v2_3 v3_4 = some r → W p l e rmX1_correctByTree s m args below meth c H1 L1 0 0 (Qm G (some (.int r)) o rmX1_correctByTree below args s) (F0 m 63 ls [])) hf ?_ (fun k63 j63 hf => ?_)
  · intro v2_3 v3_4 H1 L1 ls  P hl hf
    refine r_aload_n C hl 0 rfl rfl dX1_correctByTree_63 ?_
    refine r_iload_n C hl 2 rfl rfl dX1_correctByTree_64 ?_
    refine r_iload_n C hl 3 rfl rfl dX1_correctByTree_65 ?_
    refine r_iload_n C hl 1 rfl rfl dX1_correctByTree_66 ?_
    refine r_qVi C P cf_X1_70 (rm := rmX1_onLine) 6 t0 (fun _ _ => ⟨_, rfl⟩) rfl rfl ht0 [.int v2_3, .int v3_4, .int v1] [] hf (fun _ h => ctX1_onLine l G o t0 v2_3 v3_4 v1 ht0 h) ⟨rfl, rfl⟩ ⟨Nat.le_of_ble_eq_true rfl, Nat.le_of_ble_eq_true rfl⟩ ⟨Nat.le_of_ble_eq_true rfl, Nat.le_of_ble_eq_true rfl⟩ rfl rfl hl.1 (Nat.le_of_ble_eq_true rfl) dX1_correctByTree_67 (fun r_5 H1 L1 P hf => ?_)
    exact q_iret C P (rm := rmX1_correctByTree) ⟨rfl, rfl⟩ dX1_correctByTree_70 hf
  refine r_jn (fun k38 : Unit → Option Int32 => ∀ H1 L1 ls, Hp G o s H1 L1 → lv_has ls 4 [(0, .ref (rA G 6 t0)), (1, .int v1), (2, .int r_1), (3, .int r_2)] → k38 () = some r → W p l e rmX1_correctByTree s m args below meth c H1 L1 0 0 (Qm G (some (.int r)) o rmX1_correctByTree below args s) (F0 m 38 ls [])) hf ?_ (fun k38 j38 hf => ?_)
  · intro  H1 L1 ls  P hl hf
    refine r_iload_n C hl 3 rfl rfl dX1_correctByTree_38 ?_
    refine r_iconst C (v := -1) (by decide) dX1_correctByTree_39 ?_
    refine r_icmp_ne C dX1_correctByTree_40 hf (fun hf => ?_) (fun hf => ?_)
    · exact j63 r_1 r_2 _ _ _ P (lv_sub hl [0, 1, 2, 3] rfl) hf
    · refine r_iload_n C hl 2 rfl rfl dX1_correctByTree_43 ?_
      refine r_iconst C (v := -1) (by decide) dX1_correctByTree_44 ?_
      refine r_icmp_eq C dX1_correctByTree_45 hf (fun hf => ?_) (fun hf => ?_)
      · exact j63 r_1 r_2 _ _ _ P (lv_sub hl [0, 1, 2, 3] rfl) hf
      · refine r_iload_n C hl 2 rfl rfl dX1_correctByTree_48 ?_
        refine r_istore_n C [(3, .int r_1), (0, .ref (rA G 6 t0)), (1, .int v1), (2, .int r_1)] hl (by decide) rfl rfl dX1_correctByTree_49 (fun ls hl => ?_)
        refine r_aload_n C hl 1 rfl rfl dX1_correctByTree_50 ?_
        refine r_aload_n C hl 1 rfl rfl dX1_correctByTree_51 ?_
        refine gf_6_1 C P ht0 wd_66 dX1_correctByTree_52 ?_
        refine r_iload_n C hl 0 rfl rfl dX1_correctByTree_55 ?_
        refine r_iald C P (k := 7) (i := t0) (n := 10) (fun _ _ => rfl) ht0 dX1_correctByTree_56 hf (fun hf => ?_)
        refine r_iconst C (v := 1) (by decide) dX1_correctByTree_57 ?_
        refine r_isub C dX1_correctByTree_58 ?_
        refine r_qVi C P cf_X1_64 (rm := rmX1_lastUpTo) 6 t0 (fun _ _ => ⟨_, rfl⟩) rfl rfl ht0 [.int ((rd o 7 t0 r_1.toNatClampNeg) - ((1 : Int32)))] [] hf (fun _ h => ctX1_lastUpTo l G o t0 ((rd o 7 t0 r_1.toNatClampNeg) - ((1 : Int32))) ht0 h) ⟨rfl, rfl⟩ ⟨Nat.le_of_ble_eq_true rfl, Nat.le_of_ble_eq_true rfl⟩ ⟨Nat.le_of_ble_eq_true rfl, Nat.le_of_ble_eq_true rfl⟩ rfl rfl hl.1 (Nat.le_of_ble_eq_true rfl) dX1_correctByTree_59 (fun r_6 H1 L1 P hf => ?_)
        refine r_istore_n C [(2, .int r_6), (3, .int r_1), (0, .ref (rA G 6 t0)), (1, .int v1)] hl (by decide) rfl rfl dX1_correctByTree_62 (fun ls hl => ?_)
        exact j63 r_6 r_1 _ _ _ P (lv_sub hl [2, 3, 0, 1] rfl) hf
  refine r_icmp_ne C dX1_correctByTree_14 hf (fun hf => ?_) (fun hf => ?_)
  · exact j38  _ _ _ P (lv_sub hl [2, 3, 1, 0] rfl) hf
  · refine r_iload_n C hl 0 rfl rfl dX1_correctByTree_17 ?_
    refine r_iconst C (v := -1) (by decide) dX1_correctByTree_18 ?_
    refine r_icmp_eq C dX1_correctByTree_19 hf (fun hf => ?_) (fun hf => ?_)
    · exact j38  _ _ _ P (lv_sub hl [2, 3, 1, 0] rfl) hf
    · refine r_iload_n C hl 0 rfl rfl dX1_correctByTree_22 ?_
      refine r_istore_n C [(2, .int r_2), (3, .int r_2), (0, .ref (rA G 6 t0)), (1, .int v1)] hl (by decide) rfl rfl dX1_correctByTree_23 (fun ls hl => ?_)
      refine r_aload_n C hl 2 rfl rfl dX1_correctByTree_24 ?_
      refine r_aload_n C hl 2 rfl rfl dX1_correctByTree_25 ?_
      refine gf_6_1 C P ht0 wd_66 dX1_correctByTree_26 ?_
      refine r_iload_n C hl 0 rfl rfl dX1_correctByTree_29 ?_
      refine r_iald C P (k := 7) (i := t0) (n := 10) (fun _ _ => rfl) ht0 dX1_correctByTree_30 hf (fun hf => ?_)
      refine r_qVi C P cf_X1_67 (rm := rmX1_firstAbove) 6 t0 (fun _ _ => ⟨_, rfl⟩) rfl rfl ht0 [.int (rd o 7 t0 r_2.toNatClampNeg)] [] hf (fun _ h => ctX1_firstAbove l G o t0 (rd o 7 t0 r_2.toNatClampNeg) ht0 h) ⟨rfl, rfl⟩ ⟨Nat.le_of_ble_eq_true rfl, Nat.le_of_ble_eq_true rfl⟩ ⟨Nat.le_of_ble_eq_true rfl, Nat.le_of_ble_eq_true rfl⟩ rfl rfl hl.1 (Nat.le_of_ble_eq_true rfl) dX1_correctByTree_31 (fun r_7 H1 L1 P hf => ?_)
      refine r_istore_n C [(3, .int r_7), (2, .int r_2), (0, .ref (rA G 6 t0)), (1, .int v1)] hl (by decide) rfl rfl dX1_correctByTree_34 (fun ls hl => ?_)
      refine r_goto C dX1_correctByTree_35 ?_
      exact j63 r_2 r_7 _ _ _ P (lv_sub hl [2, 3, 1, 0] rfl) hf
theorem ctX1_correctByTree (l : Launch) (G : Gd) (o : OM) (t0 : Nat) (v1 : Int32) (ht0 : okb 6 t0 = true) {r : Int32} (hf : F_X1_correctByTree o t0 v1 = some r) : Ct l yX1_correctByTree cX1_correctByTree 4 (some .int) rmX1_correctByTree G [.ref (rA G 6 t0), .int v1] o (some (.int r)) o := ct_of (by decide +kernel) (Nat.le_of_ble_eq_true rfl) (fun p e s m below meth c ls C P hl => wX1_correctByTree C ht0 P hl hf)
theorem dX1_correctByOrder_0 : Dc cX1_correctByOrder 0 (.aload_n 0) 1 1 := ⟨by decide +kernel, rfl⟩
theorem dX1_correctByOrder_1 : Dc cX1_correctByOrder 1 (.getfield 33) 3 4 := ⟨by decide +kernel, rfl⟩
theorem dX1_correctByOrder_4 : Dc cX1_correctByOrder 4 (.iconst 2) 1 5 := ⟨by decide +kernel, rfl⟩
theorem dX1_correctByOrder_5 : Dj cX1_correctByOrder 5 (.if_icmp .ge 5) 3 8 (5) 10 := ⟨by decide +kernel, rfl, by decide⟩
theorem dX1_correctByOrder_8 : Dc cX1_correctByOrder 8 (.iconst 0) 1 9 := ⟨by decide +kernel, rfl⟩
theorem dX1_correctByOrder_9 : Dc cX1_correctByOrder 9 (.ireturn) 1 10 := ⟨by decide +kernel, rfl⟩
theorem dX1_correctByOrder_10 : Dc cX1_correctByOrder 10 (.iconst 1) 1 11 := ⟨by decide +kernel, rfl⟩
theorem dX1_correctByOrder_11 : Dc cX1_correctByOrder 11 (.istore_n 2) 1 12 := ⟨by decide +kernel, rfl⟩
theorem dX1_correctByOrder_12 : Dc cX1_correctByOrder 12 (.iload_n 2) 1 13 := ⟨by decide +kernel, rfl⟩
theorem dX1_correctByOrder_13 : Dc cX1_correctByOrder 13 (.aload_n 0) 1 14 := ⟨by decide +kernel, rfl⟩
theorem dX1_correctByOrder_14 : Dc cX1_correctByOrder 14 (.getfield 33) 3 17 := ⟨by decide +kernel, rfl⟩
theorem dX1_correctByOrder_17 : Dc cX1_correctByOrder 17 (.iconst 1) 1 18 := ⟨by decide +kernel, rfl⟩
theorem dX1_correctByOrder_18 : Dc cX1_correctByOrder 18 (.isub) 1 19 := ⟨by decide +kernel, rfl⟩
theorem dX1_correctByOrder_19 : Dj cX1_correctByOrder 19 (.if_icmp .ge 24) 3 22 (24) 43 := ⟨by decide +kernel, rfl, by decide⟩
theorem dX1_correctByOrder_22 : Dc cX1_correctByOrder 22 (.aload_n 0) 1 23 := ⟨by decide +kernel, rfl⟩
theorem dX1_correctByOrder_23 : Dc cX1_correctByOrder 23 (.getfield 9) 3 26 := ⟨by decide +kernel, rfl⟩
theorem dX1_correctByOrder_26 : Dc cX1_correctByOrder 26 (.aload_n 0) 1 27 := ⟨by decide +kernel, rfl⟩
theorem dX1_correctByOrder_27 : Dc cX1_correctByOrder 27 (.getfield 30) 3 30 := ⟨by decide +kernel, rfl⟩
theorem dX1_correctByOrder_30 : Dc cX1_correctByOrder 30 (.iload_n 2) 1 31 := ⟨by decide +kernel, rfl⟩
theorem dX1_correctByOrder_31 : Dc cX1_correctByOrder 31 (.iaload) 1 32 := ⟨by decide +kernel, rfl⟩
theorem dX1_correctByOrder_32 : Dc cX1_correctByOrder 32 (.iaload) 1 33 := ⟨by decide +kernel, rfl⟩
theorem dX1_correctByOrder_33 : Dc cX1_correctByOrder 33 (.iload_n 1) 1 34 := ⟨by decide +kernel, rfl⟩
theorem dX1_correctByOrder_34 : Dj cX1_correctByOrder 34 (.if_icmp .gt 9) 3 37 (9) 43 := ⟨by decide +kernel, rfl, by decide⟩
theorem dX1_correctByOrder_37 : Dc cX1_correctByOrder 37 (.iinc 2 1) 3 40 := ⟨by decide +kernel, rfl⟩
theorem dX1_correctByOrder_40 : Dj cX1_correctByOrder 40 (.goto (-28)) 3 43 (-28) 12 := ⟨by decide +kernel, rfl, by decide⟩
theorem dX1_correctByOrder_43 : Dc cX1_correctByOrder 43 (.aload_n 0) 1 44 := ⟨by decide +kernel, rfl⟩
theorem dX1_correctByOrder_44 : Dc cX1_correctByOrder 44 (.aload_n 0) 1 45 := ⟨by decide +kernel, rfl⟩
theorem dX1_correctByOrder_45 : Dc cX1_correctByOrder 45 (.getfield 30) 3 48 := ⟨by decide +kernel, rfl⟩
theorem dX1_correctByOrder_48 : Dc cX1_correctByOrder 48 (.iload_n 2) 1 49 := ⟨by decide +kernel, rfl⟩
theorem dX1_correctByOrder_49 : Dc cX1_correctByOrder 49 (.iconst 1) 1 50 := ⟨by decide +kernel, rfl⟩
theorem dX1_correctByOrder_50 : Dc cX1_correctByOrder 50 (.isub) 1 51 := ⟨by decide +kernel, rfl⟩
theorem dX1_correctByOrder_51 : Dc cX1_correctByOrder 51 (.iaload) 1 52 := ⟨by decide +kernel, rfl⟩
theorem dX1_correctByOrder_52 : Dc cX1_correctByOrder 52 (.aload_n 0) 1 53 := ⟨by decide +kernel, rfl⟩
theorem dX1_correctByOrder_53 : Dc cX1_correctByOrder 53 (.getfield 30) 3 56 := ⟨by decide +kernel, rfl⟩
theorem dX1_correctByOrder_56 : Dc cX1_correctByOrder 56 (.iload_n 2) 1 57 := ⟨by decide +kernel, rfl⟩
theorem dX1_correctByOrder_57 : Dc cX1_correctByOrder 57 (.iaload) 1 58 := ⟨by decide +kernel, rfl⟩
theorem dX1_correctByOrder_58 : Dc cX1_correctByOrder 58 (.iload_n 1) 1 59 := ⟨by decide +kernel, rfl⟩
theorem dX1_correctByOrder_59 : Dc cX1_correctByOrder 59 (.invokevirtual 70) 3 62 := ⟨by decide +kernel, rfl⟩
theorem dX1_correctByOrder_62 : Dc cX1_correctByOrder 62 (.ireturn) 1 63 := ⟨by decide +kernel, rfl⟩
def LX1_correctByOrder_12 (k43 : Int32 → Option Int32) (o : OM) (t0 : Nat) (v1 : Int32) : Nat → Int32 → Option Int32
  | 0 => fun _ => none
  | n + 1 => fun v2_3 => if ((rd o 6 t0 0) - ((1 : Int32))) ≤ v2_3 then (k43 v2_3) else (grd (inB v2_3 10) (grd (inB (rd o 13 t0 v2_3.toNatClampNeg) 10) (if v1 < (rd o 7 t0 (rd o 13 t0 v2_3.toNatClampNeg).toNatClampNeg) then (k43 v2_3) else (bd (v2_3 + (1 : Int32)) (fun v2_4 : Int32 => (LX1_correctByOrder_12 k43 o t0 v1 n) v2_4)))))
def F_X1_correctByOrder (o : OM) (t0 : Nat) (v1 : Int32) : Option Int32 := if ((2 : Int32)) ≤ (rd o 6 t0 0) then (bd (fun (v2_1 : Int32) => grd (inB (v2_1 - ((1 : Int32))) 10) (grd (inB v2_1 10) (bq (F_X1_onLine o t0 (rd o 13 t0 (v2_1 - ((1 : Int32))).toNatClampNeg) (rd o 13 t0 v2_1.toNatClampNeg) v1) (fun r_2 => some r_2)))) (fun k43 => LX1_correctByOrder_12 k43 o t0 v1 FU ((1 : Int32)))) else (some ((0 : Int32)))
abbrev rmX1_correctByOrder : Room := { frames := 2, cells := 0, slots := 0, locals := 47 }
set_option maxHeartbeats 4000000 in
set_option maxRecDepth 100000 in
theorem lX1_correctByOrder_12 {G : Gd} {p : Program} {l : Launch} {e : Env} {s : State} {m : MethodId} {args : Array Value} {below : List Frame} {meth : Method} {c : Code} {r : Int32} {o : OM} {t0 : Nat} {v1 : Int32} (C : Cx G RX1 cX1_correctByOrder 3 (some .int) p s m args meth c) (ht0 : okb 6 t0 = true) {k43 : Int32 → Option Int32} (j43 : ∀ (v2_1 : Int32) H1 L1 ls, Hp G o s H1 L1 → lv_has ls 3 [(0, .ref (rA G 6 t0)), (1, .int v1), (2, .int v2_1)] → k43 v2_1 = some r → W p l e rmX1_correctByOrder s m args below meth c H1 L1 0 0 (Qm G (some (.int r)) o rmX1_correctByOrder below args s) (F0 m 43 ls [])) : ∀ (n : Nat) (v2_3 : Int32) H1 L1 ls, Hp G o s H1 L1 → lv_has ls 3 [(0, .ref (rA G 6 t0)), (1, .int v1), (2, .int v2_3)] → LX1_correctByOrder_12 k43 o t0 v1 n v2_3 = some r → W p l e rmX1_correctByOrder s m args below meth c H1 L1 0 0 (Qm G (some (.int r)) o rmX1_correctByOrder below args s) (F0 m 12 ls []) := by
  intro n
  induction n with
  | zero =>
    intro v2_3 H1 L1 ls P hl hf
    exact nomatch hf
  | succ n ih =>
    intro v2_3 H1 L1 ls P hl hf
    rw [LX1_correctByOrder_12.eq_2] at hf
    refine r_iload_n C hl 2 rfl rfl dX1_correctByOrder_12 ?_
    refine r_aload_n C hl 0 rfl rfl dX1_correctByOrder_13 ?_
    refine gf_6_0 C P ht0 wd_62 dX1_correctByOrder_14 ?_
    refine r_iconst C (v := 1) (by decide) dX1_correctByOrder_17 ?_
    refine r_isub C dX1_correctByOrder_18 ?_
    refine r_icmp_ge C dX1_correctByOrder_19 hf (fun hf => ?_) (fun hf => ?_)
    · exact j43 v2_3 _ _ _ P (lv_sub hl [0, 1, 2] rfl) hf
    · refine r_aload_n C hl 0 rfl rfl dX1_correctByOrder_22 ?_
      refine gf_6_1 C P ht0 wd_66 dX1_correctByOrder_23 ?_
      refine r_aload_n C hl 0 rfl rfl dX1_correctByOrder_26 ?_
      refine gf_6_7 C P ht0 wd_77 dX1_correctByOrder_27 ?_
      refine r_iload_n C hl 2 rfl rfl dX1_correctByOrder_30 ?_
      refine r_iald C P (k := 13) (i := t0) (n := 10) (fun _ _ => rfl) ht0 dX1_correctByOrder_31 hf (fun hf => ?_)
      refine r_iald C P (k := 7) (i := t0) (n := 10) (fun _ _ => rfl) ht0 dX1_correctByOrder_32 hf (fun hf => ?_)
      refine r_iload_n C hl 1 rfl rfl dX1_correctByOrder_33 ?_
      refine r_icmp_gt C dX1_correctByOrder_34 hf (fun hf => ?_) (fun hf => ?_)
      · exact j43 v2_3 _ _ _ P (lv_sub hl [0, 1, 2] rfl) hf
      · refine r_iinc C (fun v2_4 => [(2, .int v2_4), (0, .ref (rA G 6 t0)), (1, .int v1)]) (w := 1) 2 hl rfl (by decide) (by decide) (fun _ => rfl) dX1_correctByOrder_37 hf (fun v2_4 ls hl hf => ?_)
        refine r_goto C dX1_correctByOrder_40 ?_
        exact ih v2_4 _ _ _ P (lv_sub hl [1, 2, 0] rfl) hf
set_option maxHeartbeats 4000000 in
set_option maxRecDepth 100000 in
theorem wX1_correctByOrder {G : Gd} {p : Program} {l : Launch} {e : Env} {s : State} {m : MethodId} {args : Array Value} {below : List Frame} {meth : Method} {c : Code} {o : OM} {H : Heap} {L0 : List Loc} {ls : Array Slot} {r : Int32} {t0 : Nat} {v1 : Int32} (C : Cx G RX1 cX1_correctByOrder 3 (some .int) p s m args meth c) (ht0 : okb 6 t0 = true) (P : Hp G o s H L0) (hl : lv_has ls 3 [(0, .ref (rA G 6 t0)), (1, .int v1)]) (hf : F_X1_correctByOrder o t0 v1 = some r) : W p l e rmX1_correctByOrder s m args below meth c H L0 0 0 (Qm G (some (.int r)) o rmX1_correctByOrder below args s) (F0 m 0 ls []) := by
  unfold F_X1_correctByOrder at hf
  refine r_aload_n C hl 0 rfl rfl dX1_correctByOrder_0 ?_
  refine gf_6_0 C P ht0 wd_62 dX1_correctByOrder_1 ?_
  refine r_iconst C (v := 2) (by decide) dX1_correctByOrder_4 ?_
  refine r_icmp_ge C dX1_correctByOrder_5 hf (fun hf => ?_) (fun hf => ?_)
  · refine r_iconst C (v := 1) (by decide) dX1_correctByOrder_10 ?_
    refine r_istore_n C [(2, .int ((1 : Int32))), (0, .ref (rA G 6 t0)), (1, .int v1)] hl (by decide) rfl rfl dX1_correctByOrder_11 (fun ls hl => ?_)
    refine r_jn (fun k43 : Int32 → Option Int32 => ∀ (v2_1 : Int32) H1 L1 ls, Hp G o s H1 L1 → lv_has ls 3 [(0, .ref (rA G 6 t0)), (1, .int v1), (2, .int v2_1)] → k43 v2_1 = some r → W p l e rmX1_correctByOrder s m args below meth c H1 L1 0 0 (Qm G (some (.int r)) o rmX1_correctByOrder below args s) (F0 m 43 ls [])) hf ?_ (fun k43 j43 hf => ?_)
    · intro v2_1 H1 L1 ls  P hl hf
      refine r_aload_n C hl 0 rfl rfl dX1_correctByOrder_43 ?_
      refine r_aload_n C hl 0 rfl rfl dX1_correctByOrder_44 ?_
      refine gf_6_7 C P ht0 wd_77 dX1_correctByOrder_45 ?_
      refine r_iload_n C hl 2 rfl rfl dX1_correctByOrder_48 ?_
      refine r_iconst C (v := 1) (by decide) dX1_correctByOrder_49 ?_
      refine r_isub C dX1_correctByOrder_50 ?_
      refine r_iald C P (k := 13) (i := t0) (n := 10) (fun _ _ => rfl) ht0 dX1_correctByOrder_51 hf (fun hf => ?_)
      refine r_aload_n C hl 0 rfl rfl dX1_correctByOrder_52 ?_
      refine gf_6_7 C P ht0 wd_77 dX1_correctByOrder_53 ?_
      refine r_iload_n C hl 2 rfl rfl dX1_correctByOrder_56 ?_
      refine r_iald C P (k := 13) (i := t0) (n := 10) (fun _ _ => rfl) ht0 dX1_correctByOrder_57 hf (fun hf => ?_)
      refine r_iload_n C hl 1 rfl rfl dX1_correctByOrder_58 ?_
      refine r_qVi C P cf_X1_70 (rm := rmX1_onLine) 6 t0 (fun _ _ => ⟨_, rfl⟩) rfl rfl ht0 [.int (rd o 13 t0 (v2_1 - ((1 : Int32))).toNatClampNeg), .int (rd o 13 t0 v2_1.toNatClampNeg), .int v1] [] hf (fun _ h => ctX1_onLine l G o t0 (rd o 13 t0 (v2_1 - ((1 : Int32))).toNatClampNeg) (rd o 13 t0 v2_1.toNatClampNeg) v1 ht0 h) ⟨rfl, rfl⟩ ⟨Nat.le_of_ble_eq_true rfl, Nat.le_of_ble_eq_true rfl⟩ ⟨Nat.le_of_ble_eq_true rfl, Nat.le_of_ble_eq_true rfl⟩ rfl rfl hl.1 (Nat.le_of_ble_eq_true rfl) dX1_correctByOrder_59 (fun r_2 H1 L1 P hf => ?_)
      exact q_iret C P (rm := rmX1_correctByOrder) ⟨rfl, rfl⟩ dX1_correctByOrder_62 hf
    exact lX1_correctByOrder_12 C ht0 j43 FU ((1 : Int32)) _ _ _ P (lv_sub hl [1, 2, 0] rfl) hf
  · refine r_iconst C (v := 0) (by decide) dX1_correctByOrder_8 ?_
    exact q_iret C P (rm := rmX1_correctByOrder) ⟨rfl, rfl⟩ dX1_correctByOrder_9 hf
theorem ctX1_correctByOrder (l : Launch) (G : Gd) (o : OM) (t0 : Nat) (v1 : Int32) (ht0 : okb 6 t0 = true) {r : Int32} (hf : F_X1_correctByOrder o t0 v1 = some r) : Ct l yX1_correctByOrder cX1_correctByOrder 3 (some .int) rmX1_correctByOrder G [.ref (rA G 6 t0), .int v1] o (some (.int r)) o := ct_of (by decide +kernel) (Nat.le_of_ble_eq_true rfl) (fun p e s m below meth c ls C P hl => wX1_correctByOrder C ht0 P hl hf)
theorem dX2_has_0 : Dc cX2_has 0 (.iload_n 1) 1 1 := ⟨by decide +kernel, rfl⟩
theorem dX2_has_1 : Dj cX2_has 1 (.ifCond .lt 15) 3 4 (15) 16 := ⟨by decide +kernel, rfl, by decide⟩
theorem dX2_has_4 : Dc cX2_has 4 (.iload_n 1) 1 5 := ⟨by decide +kernel, rfl⟩
theorem dX2_has_5 : Dc cX2_has 5 (.aload_n 0) 1 6 := ⟨by decide +kernel, rfl⟩
theorem dX2_has_6 : Dc cX2_has 6 (.getfield 49) 3 9 := ⟨by decide +kernel, rfl⟩
theorem dX2_has_9 : Dj cX2_has 9 (.if_icmp .ge 7) 3 12 (7) 16 := ⟨by decide +kernel, rfl, by decide⟩
theorem dX2_has_12 : Dc cX2_has 12 (.iconst 1) 1 13 := ⟨by decide +kernel, rfl⟩
theorem dX2_has_13 : Dj cX2_has 13 (.goto 4) 3 16 (4) 17 := ⟨by decide +kernel, rfl, by decide⟩
theorem dX2_has_16 : Dc cX2_has 16 (.iconst 0) 1 17 := ⟨by decide +kernel, rfl⟩
theorem dX2_has_17 : Dc cX2_has 17 (.ireturn) 1 18 := ⟨by decide +kernel, rfl⟩
def F_X2_has (o : OM) (t0 : Nat) (v1 : Int32) : Option Int32 := bd (fun (s_1 : Int32) => grd (isZ s_1) (some s_1)) (fun k17 => bd (fun (_ : Unit) => k17 ((0 : Int32))) (fun k16 => if v1 < 0 then (k16 ()) else (if (rd o 1 t0 2) ≤ v1 then (k16 ()) else (k17 ((1 : Int32))))))
abbrev rmX2_has : Room := { frames := 0, cells := 0, slots := 0, locals := 0 }
set_option maxHeartbeats 4000000 in
set_option maxRecDepth 100000 in
theorem wX2_has {G : Gd} {p : Program} {l : Launch} {e : Env} {s : State} {m : MethodId} {args : Array Value} {below : List Frame} {meth : Method} {c : Code} {o : OM} {H : Heap} {L0 : List Loc} {ls : Array Slot} {r : Int32} {t0 : Nat} {v1 : Int32} (C : Cx G RX2 cX2_has 2 (some .boolean) p s m args meth c) (ht0 : okb 1 t0 = true) (P : Hp G o s H L0) (hl : lv_has ls 2 [(0, .ref (rA G 1 t0)), (1, .int v1)]) (hf : F_X2_has o t0 v1 = some r) : W p l e rmX2_has s m args below meth c H L0 0 0 (Qm G (some (.int r)) o rmX2_has below args s) (F0 m 0 ls []) := by
  unfold F_X2_has at hf
  refine r_iload_n C hl 1 rfl rfl dX2_has_0 ?_
  refine r_jn (fun k17 : Int32 → Option Int32 => ∀ (s_1 : Int32) H1 L1 ls, Hp G o s H1 L1 → lv_has ls 2 [] → k17 s_1 = some r → W p l e rmX2_has s m args below meth c H1 L1 0 0 (Qm G (some (.int r)) o rmX2_has below args s) (F0 m 17 ls [.int s_1])) hf ?_ (fun k17 j17 hf => ?_)
  · intro s_1 H1 L1 ls  P hl hf
    exact q_zret C P (rm := rmX2_has) ⟨rfl, rfl⟩ dX2_has_17 hf
  refine r_jn (fun k16 : Unit → Option Int32 => ∀ H1 L1 ls, Hp G o s H1 L1 → lv_has ls 2 [] → k16 () = some r → W p l e rmX2_has s m args below meth c H1 L1 0 0 (Qm G (some (.int r)) o rmX2_has below args s) (F0 m 16 ls [])) hf ?_ (fun k16 j16 hf => ?_)
  · intro  H1 L1 ls  P hl hf
    refine r_iconst C (v := 0) (by decide) dX2_has_16 ?_
    exact j17 ((0 : Int32)) _ _ _ P (lv_sub hl [] rfl) hf
  refine r_if_lt C dX2_has_1 hf (fun hf => ?_) (fun hf => ?_)
  · exact j16  _ _ _ P (lv_sub hl [] rfl) hf
  · refine r_iload_n C hl 1 rfl rfl dX2_has_4 ?_
    refine r_aload_n C hl 0 rfl rfl dX2_has_5 ?_
    refine gf_1_2 C P ht0 wd_137 dX2_has_6 ?_
    refine r_icmp_ge C dX2_has_9 hf (fun hf => ?_) (fun hf => ?_)
    · exact j16  _ _ _ P (lv_sub hl [] rfl) hf
    · refine r_iconst C (v := 1) (by decide) dX2_has_12 ?_
      refine r_goto C dX2_has_13 ?_
      exact j17 ((1 : Int32)) _ _ _ P (lv_sub hl [] rfl) hf
theorem ctX2_has (l : Launch) (G : Gd) (o : OM) (t0 : Nat) (v1 : Int32) (ht0 : okb 1 t0 = true) {r : Int32} (hf : F_X2_has o t0 v1 = some r) : Ct l yX2_has cX2_has 2 (some .boolean) rmX2_has G [.ref (rA G 1 t0), .int v1] o (some (.int r)) o := ct_of (by decide +kernel) (Nat.le_of_ble_eq_true rfl) (fun p e s m below meth c ls C P hl => wX2_has C ht0 P hl hf)
theorem dX2_hasRoom_0 : Dc cX2_hasRoom 0 (.aload_n 0) 1 1 := ⟨by decide +kernel, rfl⟩
theorem dX2_hasRoom_1 : Dc cX2_hasRoom 1 (.getfield 49) 3 4 := ⟨by decide +kernel, rfl⟩
theorem dX2_hasRoom_4 : Dc cX2_hasRoom 4 (.aload_n 0) 1 5 := ⟨by decide +kernel, rfl⟩
theorem dX2_hasRoom_5 : Dc cX2_hasRoom 5 (.getfield 38) 3 8 := ⟨by decide +kernel, rfl⟩
theorem dX2_hasRoom_8 : Dc cX2_hasRoom 8 (.arraylength) 1 9 := ⟨by decide +kernel, rfl⟩
theorem dX2_hasRoom_9 : Dj cX2_hasRoom 9 (.if_icmp .ge 7) 3 12 (7) 16 := ⟨by decide +kernel, rfl, by decide⟩
theorem dX2_hasRoom_12 : Dc cX2_hasRoom 12 (.iconst 1) 1 13 := ⟨by decide +kernel, rfl⟩
theorem dX2_hasRoom_13 : Dj cX2_hasRoom 13 (.goto 4) 3 16 (4) 17 := ⟨by decide +kernel, rfl, by decide⟩
theorem dX2_hasRoom_16 : Dc cX2_hasRoom 16 (.iconst 0) 1 17 := ⟨by decide +kernel, rfl⟩
theorem dX2_hasRoom_17 : Dc cX2_hasRoom 17 (.ireturn) 1 18 := ⟨by decide +kernel, rfl⟩
def F_X2_hasRoom (o : OM) (t0 : Nat) : Option Int32 := bd (fun (s_1 : Int32) => grd (isZ s_1) (some s_1)) (fun k17 => if ((6 : Int32)) ≤ (rd o 1 t0 2) then (k17 ((0 : Int32))) else (k17 ((1 : Int32))))
abbrev rmX2_hasRoom : Room := { frames := 0, cells := 0, slots := 0, locals := 0 }
set_option maxHeartbeats 4000000 in
set_option maxRecDepth 100000 in
theorem wX2_hasRoom {G : Gd} {p : Program} {l : Launch} {e : Env} {s : State} {m : MethodId} {args : Array Value} {below : List Frame} {meth : Method} {c : Code} {o : OM} {H : Heap} {L0 : List Loc} {ls : Array Slot} {r : Int32} {t0 : Nat} (C : Cx G RX2 cX2_hasRoom 1 (some .boolean) p s m args meth c) (ht0 : okb 1 t0 = true) (P : Hp G o s H L0) (hl : lv_has ls 1 [(0, .ref (rA G 1 t0))]) (hf : F_X2_hasRoom o t0 = some r) : W p l e rmX2_hasRoom s m args below meth c H L0 0 0 (Qm G (some (.int r)) o rmX2_hasRoom below args s) (F0 m 0 ls []) := by
  unfold F_X2_hasRoom at hf
  refine r_aload_n C hl 0 rfl rfl dX2_hasRoom_0 ?_
  refine gf_1_2 C P ht0 wd_137 dX2_hasRoom_1 ?_
  refine r_aload_n C hl 0 rfl rfl dX2_hasRoom_4 ?_
  refine gf_1_7 C P ht0 wd_147 dX2_hasRoom_5 ?_
  refine r_alenT C P (k := 4) (i := t0) (N := 6) (v := 6) (fun _ _ => ⟨_, rfl⟩) (by decide) ht0 dX2_hasRoom_8 ?_
  refine r_jn (fun k17 : Int32 → Option Int32 => ∀ (s_1 : Int32) H1 L1 ls, Hp G o s H1 L1 → lv_has ls 1 [] → k17 s_1 = some r → W p l e rmX2_hasRoom s m args below meth c H1 L1 0 0 (Qm G (some (.int r)) o rmX2_hasRoom below args s) (F0 m 17 ls [.int s_1])) hf ?_ (fun k17 j17 hf => ?_)
  · intro s_1 H1 L1 ls  P hl hf
    exact q_zret C P (rm := rmX2_hasRoom) ⟨rfl, rfl⟩ dX2_hasRoom_17 hf
  refine r_icmp_ge C dX2_hasRoom_9 hf (fun hf => ?_) (fun hf => ?_)
  · refine r_iconst C (v := 0) (by decide) dX2_hasRoom_16 ?_
    exact j17 ((0 : Int32)) _ _ _ P (lv_sub hl [] rfl) hf
  · refine r_iconst C (v := 1) (by decide) dX2_hasRoom_12 ?_
    refine r_goto C dX2_hasRoom_13 ?_
    exact j17 ((1 : Int32)) _ _ _ P (lv_sub hl [] rfl) hf
theorem ctX2_hasRoom (l : Launch) (G : Gd) (o : OM) (t0 : Nat) (ht0 : okb 1 t0 = true) {r : Int32} (hf : F_X2_hasRoom o t0 = some r) : Ct l yX2_hasRoom cX2_hasRoom 1 (some .boolean) rmX2_hasRoom G [.ref (rA G 1 t0)] o (some (.int r)) o := ct_of (by decide +kernel) (Nat.le_of_ble_eq_true rfl) (fun p e s m below meth c ls C P hl => wX2_hasRoom C ht0 P hl hf)
theorem dX3_beginAnew_0 : Dc cX3_beginAnew 0 (.aload_n 0) 1 1 := ⟨by decide +kernel, rfl⟩
theorem dX3_beginAnew_1 : Dc cX3_beginAnew 1 (.iload_n 1) 1 2 := ⟨by decide +kernel, rfl⟩
theorem dX3_beginAnew_2 : Dc cX3_beginAnew 2 (.putfield 22) 3 5 := ⟨by decide +kernel, rfl⟩
theorem dX3_beginAnew_5 : Dc cX3_beginAnew 5 (.aload_n 0) 1 6 := ⟨by decide +kernel, rfl⟩
theorem dX3_beginAnew_6 : Dc cX3_beginAnew 6 (.iload_n 2) 1 7 := ⟨by decide +kernel, rfl⟩
theorem dX3_beginAnew_7 : Dc cX3_beginAnew 7 (.putfield 25) 3 10 := ⟨by decide +kernel, rfl⟩
theorem dX3_beginAnew_10 : Dc cX3_beginAnew 10 (.aload_n 0) 1 11 := ⟨by decide +kernel, rfl⟩
theorem dX3_beginAnew_11 : Dc cX3_beginAnew 11 (.iload_n 3) 1 12 := ⟨by decide +kernel, rfl⟩
theorem dX3_beginAnew_12 : Dc cX3_beginAnew 12 (.putfield 28) 3 15 := ⟨by decide +kernel, rfl⟩
theorem dX3_beginAnew_15 : Dc cX3_beginAnew 15 (.aload_n 0) 1 16 := ⟨by decide +kernel, rfl⟩
theorem dX3_beginAnew_16 : Dc cX3_beginAnew 16 (.iconst 0) 1 17 := ⟨by decide +kernel, rfl⟩
theorem dX3_beginAnew_17 : Dc cX3_beginAnew 17 (.putfield 31) 3 20 := ⟨by decide +kernel, rfl⟩
theorem dX3_beginAnew_20 : Dc cX3_beginAnew 20 (.aload_n 0) 1 21 := ⟨by decide +kernel, rfl⟩
theorem dX3_beginAnew_21 : Dc cX3_beginAnew 21 (.iconst 0) 1 22 := ⟨by decide +kernel, rfl⟩
theorem dX3_beginAnew_22 : Dc cX3_beginAnew 22 (.putfield 34) 3 25 := ⟨by decide +kernel, rfl⟩
theorem dX3_beginAnew_25 : Dc cX3_beginAnew 25 (.aload_n 0) 1 26 := ⟨by decide +kernel, rfl⟩
theorem dX3_beginAnew_26 : Dc cX3_beginAnew 26 (.iconst (-1)) 1 27 := ⟨by decide +kernel, rfl⟩
theorem dX3_beginAnew_27 : Dc cX3_beginAnew 27 (.putfield 9) 3 30 := ⟨by decide +kernel, rfl⟩
theorem dX3_beginAnew_30 : Dc cX3_beginAnew 30 (.aload_n 0) 1 31 := ⟨by decide +kernel, rfl⟩
theorem dX3_beginAnew_31 : Dc cX3_beginAnew 31 (.iconst 0) 1 32 := ⟨by decide +kernel, rfl⟩
theorem dX3_beginAnew_32 : Dc cX3_beginAnew 32 (.putfield 37) 3 35 := ⟨by decide +kernel, rfl⟩
theorem dX3_beginAnew_35 : Dc cX3_beginAnew 35 (.aload_n 0) 1 36 := ⟨by decide +kernel, rfl⟩
theorem dX3_beginAnew_36 : Dc cX3_beginAnew 36 (.getfield 18) 3 39 := ⟨by decide +kernel, rfl⟩
theorem dX3_beginAnew_39 : Dc cX3_beginAnew 39 (.iconst 0) 1 40 := ⟨by decide +kernel, rfl⟩
theorem dX3_beginAnew_40 : Dc cX3_beginAnew 40 (.putfield 40) 3 43 := ⟨by decide +kernel, rfl⟩
theorem dX3_beginAnew_43 : Dc cX3_beginAnew 43 (.return_) 1 44 := ⟨by decide +kernel, rfl⟩
def F_X3_beginAnew (o : OM) (t0 : Nat) (v1 : Int32) (v2 : Int32) (v3 : Int32) : Option (Unit × OM) := bd (wr o 5 t0 0 v1) (fun o_1 : OM => bd (wr o_1 5 t0 1 v2) (fun o_2 : OM => bd (wr o_2 5 t0 2 v3) (fun o_3 : OM => bd (wr o_3 5 t0 3 ((0 : Int32))) (fun o_4 : OM => bd (wr o_4 5 t0 4 ((0 : Int32))) (fun o_5 : OM => bd (wr o_5 5 t0 5 ((-1 : Int32))) (fun o_6 : OM => bd (wr o_6 5 t0 6 ((0 : Int32))) (fun o_7 : OM => bd (wr o_7 6 t0 0 ((0 : Int32))) (fun o_8 : OM => some ((), o_8)))))))))
abbrev rmX3_beginAnew : Room := { frames := 0, cells := 0, slots := 0, locals := 0 }
set_option maxHeartbeats 4000000 in
set_option maxRecDepth 100000 in
theorem wX3_beginAnew {G : Gd} {p : Program} {l : Launch} {e : Env} {s : State} {m : MethodId} {args : Array Value} {below : List Frame} {meth : Method} {c : Code} {o : OM} {H : Heap} {L0 : List Loc} {ls : Array Slot} {r : Unit} {o9 : OM} {t0 : Nat} {v1 : Int32} {v2 : Int32} {v3 : Int32} (C : Cx G RX3 cX3_beginAnew 4 none p s m args meth c) (ht0 : okb 5 t0 = true) (P : Hp G o s H L0) (hl : lv_has ls 4 [(0, .ref (rA G 5 t0)), (1, .int v1), (2, .int v2), (3, .int v3)]) (hf : F_X3_beginAnew o t0 v1 v2 v3 = some (r, o9)) : W p l e rmX3_beginAnew s m args below meth c H L0 0 0 (Qm G none o9 rmX3_beginAnew below args s) (F0 m 0 ls []) := by
  unfold F_X3_beginAnew at hf
  refine r_aload_n C hl 0 rfl rfl dX3_beginAnew_0 ?_
  refine r_iload_n C hl 1 rfl rfl dX3_beginAnew_1 ?_
  refine pf_5_0 C P ht0 wd_97 dX3_beginAnew_2 hf (fun o_1 H1 L1 P hf => ?_)
  refine r_aload_n C hl 0 rfl rfl dX3_beginAnew_5 ?_
  refine r_iload_n C hl 2 rfl rfl dX3_beginAnew_6 ?_
  refine pf_5_1 C P ht0 wd_98 dX3_beginAnew_7 hf (fun o_2 H1 L1 P hf => ?_)
  refine r_aload_n C hl 0 rfl rfl dX3_beginAnew_10 ?_
  refine r_iload_n C hl 3 rfl rfl dX3_beginAnew_11 ?_
  refine pf_5_2 C P ht0 wd_99 dX3_beginAnew_12 hf (fun o_3 H1 L1 P hf => ?_)
  refine r_aload_n C hl 0 rfl rfl dX3_beginAnew_15 ?_
  refine r_iconst C (v := 0) (by decide) dX3_beginAnew_16 ?_
  refine pf_5_3 C P ht0 wd_102 dX3_beginAnew_17 hf (fun o_4 H1 L1 P hf => ?_)
  refine r_aload_n C hl 0 rfl rfl dX3_beginAnew_20 ?_
  refine r_iconst C (v := 0) (by decide) dX3_beginAnew_21 ?_
  refine pf_5_4 C P ht0 wd_105 dX3_beginAnew_22 hf (fun o_5 H1 L1 P hf => ?_)
  refine r_aload_n C hl 0 rfl rfl dX3_beginAnew_25 ?_
  refine r_iconst C (v := -1) (by decide) dX3_beginAnew_26 ?_
  refine pf_5_5 C P ht0 wd_108 dX3_beginAnew_27 hf (fun o_6 H1 L1 P hf => ?_)
  refine r_aload_n C hl 0 rfl rfl dX3_beginAnew_30 ?_
  refine r_iconst C (v := 0) (by decide) dX3_beginAnew_31 ?_
  refine pf_5_6 C P ht0 wd_111 dX3_beginAnew_32 hf (fun o_7 H1 L1 P hf => ?_)
  refine r_aload_n C hl 0 rfl rfl dX3_beginAnew_35 ?_
  refine gf_5_7 C P ht0 wd_113 dX3_beginAnew_36 ?_
  refine r_iconst C (v := 0) (by decide) dX3_beginAnew_39 ?_
  refine pf_6_0 C P ht0 wd_63 dX3_beginAnew_40 hf (fun o_8 H1 L1 P hf => ?_)
  exact r_vret C P (rm := rmX3_beginAnew) ⟨rfl, rfl⟩ dX3_beginAnew_43 hf
theorem ctX3_beginAnew (l : Launch) (G : Gd) (o : OM) (t0 : Nat) (v1 : Int32) (v2 : Int32) (v3 : Int32) (ht0 : okb 5 t0 = true) {r : Unit} {o9 : OM} (hf : F_X3_beginAnew o t0 v1 v2 v3 = some (r, o9)) : Ct l yX3_beginAnew cX3_beginAnew 4 none rmX3_beginAnew G [.ref (rA G 5 t0), .int v1, .int v2, .int v3] o none o9 := ct_of (by decide +kernel) (Nat.le_of_ble_eq_true rfl) (fun p e s m below meth c ls C P hl => wX3_beginAnew C ht0 P hl hf)
theorem cf_X2_62 : CallF false RX2 62 yX2_hasRoom cX2_hasRoom 1 (some .boolean) 0 := ⟨wd_387, (by rw [if_neg (by decide)]; exact ⟨wd_375, wd_376⟩), wd_11, wd_377, by decide, by decide +kernel⟩
theorem cf_X2_66 : CallF false RX2 66 yX3_beginAnew cX3_beginAnew 4 none 3 := ⟨wd_388, (by rw [if_neg (by decide)]; exact ⟨wd_389, wd_390⟩), wd_12, wd_391, by decide, by decide +kernel⟩
theorem dX2_addThermometer_0 : Dc cX2_addThermometer 0 (.aload_n 0) 1 1 := ⟨by decide +kernel, rfl⟩
theorem dX2_addThermometer_1 : Dc cX2_addThermometer 1 (.invokevirtual 62) 3 4 := ⟨by decide +kernel, rfl⟩
theorem dX2_addThermometer_4 : Dj cX2_addThermometer 4 (.ifCond .eq 28) 3 7 (28) 32 := ⟨by decide +kernel, rfl, by decide⟩
theorem dX2_addThermometer_7 : Dc cX2_addThermometer 7 (.aload_n 0) 1 8 := ⟨by decide +kernel, rfl⟩
theorem dX2_addThermometer_8 : Dc cX2_addThermometer 8 (.getfield 38) 3 11 := ⟨by decide +kernel, rfl⟩
theorem dX2_addThermometer_11 : Dc cX2_addThermometer 11 (.aload_n 0) 1 12 := ⟨by decide +kernel, rfl⟩
theorem dX2_addThermometer_12 : Dc cX2_addThermometer 12 (.getfield 49) 3 15 := ⟨by decide +kernel, rfl⟩
theorem dX2_addThermometer_15 : Dc cX2_addThermometer 15 (.aaload) 1 16 := ⟨by decide +kernel, rfl⟩
theorem dX2_addThermometer_16 : Dc cX2_addThermometer 16 (.iload_n 1) 1 17 := ⟨by decide +kernel, rfl⟩
theorem dX2_addThermometer_17 : Dc cX2_addThermometer 17 (.iload_n 2) 1 18 := ⟨by decide +kernel, rfl⟩
theorem dX2_addThermometer_18 : Dc cX2_addThermometer 18 (.iload_n 3) 1 19 := ⟨by decide +kernel, rfl⟩
theorem dX2_addThermometer_19 : Dc cX2_addThermometer 19 (.invokevirtual 66) 3 22 := ⟨by decide +kernel, rfl⟩
theorem dX2_addThermometer_22 : Dc cX2_addThermometer 22 (.aload_n 0) 1 23 := ⟨by decide +kernel, rfl⟩
theorem dX2_addThermometer_23 : Dc cX2_addThermometer 23 (.dup) 1 24 := ⟨by decide +kernel, rfl⟩
theorem dX2_addThermometer_24 : Dc cX2_addThermometer 24 (.getfield 49) 3 27 := ⟨by decide +kernel, rfl⟩
theorem dX2_addThermometer_27 : Dc cX2_addThermometer 27 (.iconst 1) 1 28 := ⟨by decide +kernel, rfl⟩
theorem dX2_addThermometer_28 : Dc cX2_addThermometer 28 (.iadd) 1 29 := ⟨by decide +kernel, rfl⟩
theorem dX2_addThermometer_29 : Dc cX2_addThermometer 29 (.putfield 49) 3 32 := ⟨by decide +kernel, rfl⟩
theorem dX2_addThermometer_32 : Dc cX2_addThermometer 32 (.return_) 1 33 := ⟨by decide +kernel, rfl⟩
def F_X2_addThermometer (o : OM) (t0 : Nat) (v1 : Int32) (v2 : Int32) (v3 : Int32) : Option (Unit × OM) := bq (F_X2_hasRoom o t0) (fun r_1 => bd (fun (o_2 : OM) => some ((), o_2)) (fun k32 => if r_1 = 0 then (k32 o) else (grd (inB (rd o 1 t0 2) 6) (bd (tid t0 (rd o 4 t0 (rd o 1 t0 2).toNatClampNeg)) (fun t_3 : Nat => bn (F_X3_beginAnew o t_3 v1 v2 v3) (fun _ o_5 => bd (wr o_5 1 t0 2 ((rd o_5 1 t0 2) + ((1 : Int32)))) (fun o_6 : OM => k32 o_6)))))))
abbrev rmX2_addThermometer : Room := { frames := 1, cells := 0, slots := 0, locals := 23 }
set_option maxHeartbeats 4000000 in
set_option maxRecDepth 100000 in
theorem wX2_addThermometer {G : Gd} {p : Program} {l : Launch} {e : Env} {s : State} {m : MethodId} {args : Array Value} {below : List Frame} {meth : Method} {c : Code} {o : OM} {H : Heap} {L0 : List Loc} {ls : Array Slot} {r : Unit} {o9 : OM} {t0 : Nat} {v1 : Int32} {v2 : Int32} {v3 : Int32} (C : Cx G RX2 cX2_addThermometer 4 none p s m args meth c) (ht0 : okb 1 t0 = true) (P : Hp G o s H L0) (hl : lv_has ls 4 [(0, .ref (rA G 1 t0)), (1, .int v1), (2, .int v2), (3, .int v3)]) (hf : F_X2_addThermometer o t0 v1 v2 v3 = some (r, o9)) : W p l e rmX2_addThermometer s m args below meth c H L0 0 0 (Qm G none o9 rmX2_addThermometer below args s) (F0 m 0 ls []) := by
  unfold F_X2_addThermometer at hf
  refine r_aload_n C hl 0 rfl rfl dX2_addThermometer_0 ?_
  refine r_qVi C P cf_X2_62 (rm := rmX2_hasRoom) 1 t0 (fun _ _ => ⟨_, rfl⟩) rfl rfl ht0 [] [] hf (fun _ h => ctX2_hasRoom l G o t0 ht0 h) ⟨rfl, rfl⟩ ⟨Nat.le_of_ble_eq_true rfl, Nat.le_of_ble_eq_true rfl⟩ ⟨Nat.le_of_ble_eq_true rfl, Nat.le_of_ble_eq_true rfl⟩ rfl rfl hl.1 (Nat.le_of_ble_eq_true rfl) dX2_addThermometer_1 (fun r_1 H1 L1 P hf => ?_)
  refine r_jn (fun k32 : OM → Option (Unit × OM) => ∀ (o_2 : OM) H1 L1 ls, Hp G o_2 s H1 L1 → lv_has ls 4 [] → k32 o_2 = some (r, o9) → W p l e rmX2_addThermometer s m args below meth c H1 L1 0 0 (Qm G none o9 rmX2_addThermometer below args s) (F0 m 32 ls [])) hf ?_ (fun k32 j32 hf => ?_)
  · intro o_2 H1 L1 ls  P hl hf
    exact r_vret C P (rm := rmX2_addThermometer) ⟨rfl, rfl⟩ dX2_addThermometer_32 hf
  refine r_if_eq C dX2_addThermometer_4 hf (fun hf => ?_) (fun hf => ?_)
  · exact j32 o _ _ _ P (lv_sub hl [] rfl) hf
  · refine r_aload_n C hl 0 rfl rfl dX2_addThermometer_7 ?_
    refine gf_1_7 C P ht0 wd_147 dX2_addThermometer_8 ?_
    refine r_aload_n C hl 0 rfl rfl dX2_addThermometer_11 ?_
    refine gf_1_2 C P ht0 wd_137 dX2_addThermometer_12 ?_
    refine r_aldT C P ht0 dX2_addThermometer_15 hf (fun t_3 ht_3 hf => ?_)
    refine r_iload_n C hl 1 rfl rfl dX2_addThermometer_16 ?_
    refine r_iload_n C hl 2 rfl rfl dX2_addThermometer_17 ?_
    refine r_iload_n C hl 3 rfl rfl dX2_addThermometer_18 ?_
    refine r_cVv C P cf_X2_66 (rm := rmX3_beginAnew) 5 t_3 (fun _ _ => ⟨_, rfl⟩) rfl rfl ht_3 [.int v1, .int v2, .int v3] [] hf (fun _ _ h => ctX3_beginAnew l G o t_3 v1 v2 v3 ht_3 h) ⟨rfl, rfl⟩ ⟨Nat.le_of_ble_eq_true rfl, Nat.le_of_ble_eq_true rfl⟩ ⟨Nat.le_of_ble_eq_true rfl, Nat.le_of_ble_eq_true rfl⟩ rfl rfl hl.1 (Nat.le_of_ble_eq_true rfl) dX2_addThermometer_19 (fun _ o_5 H1 L1 P hf => ?_)
    refine r_aload_n C hl 0 rfl rfl dX2_addThermometer_22 ?_
    refine r_dup C rfl dX2_addThermometer_23 ?_
    refine gf_1_2 C P ht0 wd_137 dX2_addThermometer_24 ?_
    refine r_iconst C (v := 1) (by decide) dX2_addThermometer_27 ?_
    refine r_iadd2 C dX2_addThermometer_28 ?_
    refine pf_1_2 C P ht0 wd_137 dX2_addThermometer_29 hf (fun o_6 H1 L1 P hf => ?_)
    exact j32 o_6 _ _ _ P (lv_sub hl [] rfl) hf
theorem ctX2_addThermometer (l : Launch) (G : Gd) (o : OM) (t0 : Nat) (v1 : Int32) (v2 : Int32) (v3 : Int32) (ht0 : okb 1 t0 = true) {r : Unit} {o9 : OM} (hf : F_X2_addThermometer o t0 v1 v2 v3 = some (r, o9)) : Ct l yX2_addThermometer cX2_addThermometer 4 none rmX2_addThermometer G [.ref (rA G 1 t0), .int v1, .int v2, .int v3] o none o9 := ct_of (by decide +kernel) (Nat.le_of_ble_eq_true rfl) (fun p e s m below meth c ls C P hl => wX2_addThermometer C ht0 P hl hf)
theorem cf_X2_70 : CallF false RX2 70 yX2_has cX2_has 2 (some .boolean) 1 := ⟨wd_428, (by rw [if_neg (by decide)]; exact ⟨wd_405, wd_406⟩), wd_11, wd_407, by decide, by decide +kernel⟩
theorem dX2_removeThermometer_0 : Dc cX2_removeThermometer 0 (.aload_n 0) 1 1 := ⟨by decide +kernel, rfl⟩
theorem dX2_removeThermometer_1 : Dc cX2_removeThermometer 1 (.iload_n 1) 1 2 := ⟨by decide +kernel, rfl⟩
theorem dX2_removeThermometer_2 : Dc cX2_removeThermometer 2 (.invokevirtual 70) 3 5 := ⟨by decide +kernel, rfl⟩
theorem dX2_removeThermometer_5 : Dj cX2_removeThermometer 5 (.ifCond .ne 4) 3 8 (4) 9 := ⟨by decide +kernel, rfl, by decide⟩
theorem dX2_removeThermometer_8 : Dc cX2_removeThermometer 8 (.return_) 1 9 := ⟨by decide +kernel, rfl⟩
theorem dX2_removeThermometer_9 : Dc cX2_removeThermometer 9 (.aload_n 0) 1 10 := ⟨by decide +kernel, rfl⟩
theorem dX2_removeThermometer_10 : Dc cX2_removeThermometer 10 (.getfield 38) 3 13 := ⟨by decide +kernel, rfl⟩
theorem dX2_removeThermometer_13 : Dc cX2_removeThermometer 13 (.iload_n 1) 1 14 := ⟨by decide +kernel, rfl⟩
theorem dX2_removeThermometer_14 : Dc cX2_removeThermometer 14 (.aaload) 1 15 := ⟨by decide +kernel, rfl⟩
theorem dX2_removeThermometer_15 : Dc cX2_removeThermometer 15 (.astore_n 2) 1 16 := ⟨by decide +kernel, rfl⟩
theorem dX2_removeThermometer_16 : Dc cX2_removeThermometer 16 (.iload_n 1) 1 17 := ⟨by decide +kernel, rfl⟩
theorem dX2_removeThermometer_17 : Dc cX2_removeThermometer 17 (.istore_n 3) 1 18 := ⟨by decide +kernel, rfl⟩
theorem dX2_removeThermometer_18 : Dc cX2_removeThermometer 18 (.iload_n 3) 1 19 := ⟨by decide +kernel, rfl⟩
theorem dX2_removeThermometer_19 : Dc cX2_removeThermometer 19 (.aload_n 0) 1 20 := ⟨by decide +kernel, rfl⟩
theorem dX2_removeThermometer_20 : Dc cX2_removeThermometer 20 (.getfield 49) 3 23 := ⟨by decide +kernel, rfl⟩
theorem dX2_removeThermometer_23 : Dc cX2_removeThermometer 23 (.iconst 1) 1 24 := ⟨by decide +kernel, rfl⟩
theorem dX2_removeThermometer_24 : Dc cX2_removeThermometer 24 (.isub) 1 25 := ⟨by decide +kernel, rfl⟩
theorem dX2_removeThermometer_25 : Dj cX2_removeThermometer 25 (.if_icmp .ge 23) 3 28 (23) 48 := ⟨by decide +kernel, rfl, by decide⟩
theorem dX2_removeThermometer_28 : Dc cX2_removeThermometer 28 (.aload_n 0) 1 29 := ⟨by decide +kernel, rfl⟩
theorem dX2_removeThermometer_29 : Dc cX2_removeThermometer 29 (.getfield 38) 3 32 := ⟨by decide +kernel, rfl⟩
theorem dX2_removeThermometer_32 : Dc cX2_removeThermometer 32 (.iload_n 3) 1 33 := ⟨by decide +kernel, rfl⟩
theorem dX2_removeThermometer_33 : Dc cX2_removeThermometer 33 (.aload_n 0) 1 34 := ⟨by decide +kernel, rfl⟩
theorem dX2_removeThermometer_34 : Dc cX2_removeThermometer 34 (.getfield 38) 3 37 := ⟨by decide +kernel, rfl⟩
theorem dX2_removeThermometer_37 : Dc cX2_removeThermometer 37 (.iload_n 3) 1 38 := ⟨by decide +kernel, rfl⟩
theorem dX2_removeThermometer_38 : Dc cX2_removeThermometer 38 (.iconst 1) 1 39 := ⟨by decide +kernel, rfl⟩
theorem dX2_removeThermometer_39 : Dc cX2_removeThermometer 39 (.iadd) 1 40 := ⟨by decide +kernel, rfl⟩
theorem dX2_removeThermometer_40 : Dc cX2_removeThermometer 40 (.aaload) 1 41 := ⟨by decide +kernel, rfl⟩
theorem dX2_removeThermometer_41 : Dc cX2_removeThermometer 41 (.aastore) 1 42 := ⟨by decide +kernel, rfl⟩
theorem dX2_removeThermometer_42 : Dc cX2_removeThermometer 42 (.iinc 3 1) 3 45 := ⟨by decide +kernel, rfl⟩
theorem dX2_removeThermometer_45 : Dj cX2_removeThermometer 45 (.goto (-27)) 3 48 (-27) 18 := ⟨by decide +kernel, rfl, by decide⟩
theorem dX2_removeThermometer_48 : Dc cX2_removeThermometer 48 (.aload_n 0) 1 49 := ⟨by decide +kernel, rfl⟩
theorem dX2_removeThermometer_49 : Dc cX2_removeThermometer 49 (.dup) 1 50 := ⟨by decide +kernel, rfl⟩
theorem dX2_removeThermometer_50 : Dc cX2_removeThermometer 50 (.getfield 49) 3 53 := ⟨by decide +kernel, rfl⟩
theorem dX2_removeThermometer_53 : Dc cX2_removeThermometer 53 (.iconst 1) 1 54 := ⟨by decide +kernel, rfl⟩
theorem dX2_removeThermometer_54 : Dc cX2_removeThermometer 54 (.isub) 1 55 := ⟨by decide +kernel, rfl⟩
theorem dX2_removeThermometer_55 : Dc cX2_removeThermometer 55 (.putfield 49) 3 58 := ⟨by decide +kernel, rfl⟩
theorem dX2_removeThermometer_58 : Dc cX2_removeThermometer 58 (.aload_n 0) 1 59 := ⟨by decide +kernel, rfl⟩
theorem dX2_removeThermometer_59 : Dc cX2_removeThermometer 59 (.getfield 38) 3 62 := ⟨by decide +kernel, rfl⟩
theorem dX2_removeThermometer_62 : Dc cX2_removeThermometer 62 (.aload_n 0) 1 63 := ⟨by decide +kernel, rfl⟩
theorem dX2_removeThermometer_63 : Dc cX2_removeThermometer 63 (.getfield 49) 3 66 := ⟨by decide +kernel, rfl⟩
theorem dX2_removeThermometer_66 : Dc cX2_removeThermometer 66 (.aload_n 2) 1 67 := ⟨by decide +kernel, rfl⟩
theorem dX2_removeThermometer_67 : Dc cX2_removeThermometer 67 (.aastore) 1 68 := ⟨by decide +kernel, rfl⟩
theorem dX2_removeThermometer_68 : Dc cX2_removeThermometer 68 (.return_) 1 69 := ⟨by decide +kernel, rfl⟩
def LX2_removeThermometer_18 (k48 : OM → Option (Unit × OM)) (t0 : Nat) : Nat → OM → Int32 → Option (Unit × OM)
  | 0 => fun _ _ => none
  | n + 1 => fun o_7 v3_6 => if ((rd o_7 1 t0 2) - ((1 : Int32))) ≤ v3_6 then (k48 o_7) else (grd (inB (v3_6 + ((1 : Int32))) 6) (bd (tid t0 (rd o_7 4 t0 (v3_6 + ((1 : Int32))).toNatClampNeg)) (fun t_8 : Nat => grd (inB v3_6 6 && decide (t_8 / 6 = t0)) (bd (wr o_7 4 t0 v3_6.toNatClampNeg (nI (t_8 % 6))) (fun o_9 : OM => bd (v3_6 + (1 : Int32)) (fun v3_10 : Int32 => (LX2_removeThermometer_18 k48 t0 n) o_9 v3_10))))))
def F_X2_removeThermometer (o : OM) (t0 : Nat) (v1 : Int32) : Option (Unit × OM) := bq (F_X2_has o t0 v1) (fun r_1 => if r_1 = 0 then (some ((), o)) else (grd (inB v1 6) (bd (tid t0 (rd o 4 t0 v1.toNatClampNeg)) (fun t_2 : Nat => bd (fun (o_3 : OM) => bd (wr o_3 1 t0 2 ((rd o_3 1 t0 2) - ((1 : Int32)))) (fun o_4 : OM => grd (inB (rd o_4 1 t0 2) 6 && decide (t_2 / 6 = t0)) (bd (wr o_4 4 t0 (rd o_4 1 t0 2).toNatClampNeg (nI (t_2 % 6))) (fun o_5 : OM => some ((), o_5))))) (fun k48 => LX2_removeThermometer_18 k48 t0 FU o v1)))))
abbrev rmX2_removeThermometer : Room := { frames := 1, cells := 0, slots := 0, locals := 21 }
set_option maxHeartbeats 4000000 in
set_option maxRecDepth 100000 in
theorem lX2_removeThermometer_18 {G : Gd} {p : Program} {l : Launch} {e : Env} {s : State} {m : MethodId} {args : Array Value} {below : List Frame} {meth : Method} {c : Code} {r : Unit} {o9 : OM} {t0 : Nat} {t_2 : Nat} (C : Cx G RX2 cX2_removeThermometer 4 none p s m args meth c) (ht0 : okb 1 t0 = true) (ht_2 : okb 5 t_2 = true) {k48 : OM → Option (Unit × OM)} (j48 : ∀ (o_3 : OM) H1 L1 ls, Hp G o_3 s H1 L1 → lv_has ls 4 [(0, .ref (rA G 1 t0)), (2, .ref (rA G 5 t_2))] → k48 o_3 = some (r, o9) → W p l e rmX2_removeThermometer s m args below meth c H1 L1 0 0 (Qm G none o9 rmX2_removeThermometer below args s) (F0 m 48 ls [])) : ∀ (n : Nat) (o_7 : OM) (v3_6 : Int32) H1 L1 ls, Hp G o_7 s H1 L1 → lv_has ls 4 [(0, .ref (rA G 1 t0)), (2, .ref (rA G 5 t_2)), (3, .int v3_6)] → LX2_removeThermometer_18 k48 t0 n o_7 v3_6 = some (r, o9) → W p l e rmX2_removeThermometer s m args below meth c H1 L1 0 0 (Qm G none o9 rmX2_removeThermometer below args s) (F0 m 18 ls []) := by
  intro n
  induction n with
  | zero =>
    intro o_7 v3_6 H1 L1 ls P hl hf
    exact nomatch hf
  | succ n ih =>
    intro o_7 v3_6 H1 L1 ls P hl hf
    rw [LX2_removeThermometer_18.eq_2] at hf
    refine r_iload_n C hl 2 rfl rfl dX2_removeThermometer_18 ?_
    refine r_aload_n C hl 0 rfl rfl dX2_removeThermometer_19 ?_
    refine gf_1_2 C P ht0 wd_137 dX2_removeThermometer_20 ?_
    refine r_iconst C (v := 1) (by decide) dX2_removeThermometer_23 ?_
    refine r_isub C dX2_removeThermometer_24 ?_
    refine r_icmp_ge C dX2_removeThermometer_25 hf (fun hf => ?_) (fun hf => ?_)
    · exact j48 o_7 _ _ _ P (lv_sub hl [0, 1] rfl) hf
    · refine r_aload_n C hl 0 rfl rfl dX2_removeThermometer_28 ?_
      refine gf_1_7 C P ht0 wd_147 dX2_removeThermometer_29 ?_
      refine r_iload_n C hl 2 rfl rfl dX2_removeThermometer_32 ?_
      refine r_aload_n C hl 0 rfl rfl dX2_removeThermometer_33 ?_
      refine gf_1_7 C P ht0 wd_147 dX2_removeThermometer_34 ?_
      refine r_iload_n C hl 2 rfl rfl dX2_removeThermometer_37 ?_
      refine r_iconst C (v := 1) (by decide) dX2_removeThermometer_38 ?_
      refine r_iadd2 C dX2_removeThermometer_39 ?_
      refine r_aldT C P ht0 dX2_removeThermometer_40 hf (fun t_8 ht_8 hf => ?_)
      refine r_astT C P ht0 ht_8 dX2_removeThermometer_41 hf (fun o_9 H1 L1 P hf => ?_)
      refine r_iinc C (fun v3_10 => [(3, .int v3_10), (0, .ref (rA G 1 t0)), (2, .ref (rA G 5 t_2))]) (w := 1) 2 hl rfl (by decide) (by decide) (fun _ => rfl) dX2_removeThermometer_42 hf (fun v3_10 ls hl hf => ?_)
      refine r_goto C dX2_removeThermometer_45 ?_
      exact ih o_9 v3_10 _ _ _ P (lv_sub hl [1, 2, 0] rfl) hf
set_option maxHeartbeats 4000000 in
set_option maxRecDepth 100000 in
theorem wX2_removeThermometer {G : Gd} {p : Program} {l : Launch} {e : Env} {s : State} {m : MethodId} {args : Array Value} {below : List Frame} {meth : Method} {c : Code} {o : OM} {H : Heap} {L0 : List Loc} {ls : Array Slot} {r : Unit} {o9 : OM} {t0 : Nat} {v1 : Int32} (C : Cx G RX2 cX2_removeThermometer 4 none p s m args meth c) (ht0 : okb 1 t0 = true) (P : Hp G o s H L0) (hl : lv_has ls 4 [(0, .ref (rA G 1 t0)), (1, .int v1)]) (hf : F_X2_removeThermometer o t0 v1 = some (r, o9)) : W p l e rmX2_removeThermometer s m args below meth c H L0 0 0 (Qm G none o9 rmX2_removeThermometer below args s) (F0 m 0 ls []) := by
  unfold F_X2_removeThermometer at hf
  refine r_aload_n C hl 0 rfl rfl dX2_removeThermometer_0 ?_
  refine r_iload_n C hl 1 rfl rfl dX2_removeThermometer_1 ?_
  refine r_qVi C P cf_X2_70 (rm := rmX2_has) 1 t0 (fun _ _ => ⟨_, rfl⟩) rfl rfl ht0 [.int v1] [] hf (fun _ h => ctX2_has l G o t0 v1 ht0 h) ⟨rfl, rfl⟩ ⟨Nat.le_of_ble_eq_true rfl, Nat.le_of_ble_eq_true rfl⟩ ⟨Nat.le_of_ble_eq_true rfl, Nat.le_of_ble_eq_true rfl⟩ rfl rfl hl.1 (Nat.le_of_ble_eq_true rfl) dX2_removeThermometer_2 (fun r_1 H1 L1 P hf => ?_)
  refine r_if_ne C dX2_removeThermometer_5 hf (fun hf => ?_) (fun hf => ?_)
  · refine r_aload_n C hl 0 rfl rfl dX2_removeThermometer_9 ?_
    refine gf_1_7 C P ht0 wd_147 dX2_removeThermometer_10 ?_
    refine r_iload_n C hl 1 rfl rfl dX2_removeThermometer_13 ?_
    refine r_aldT C P ht0 dX2_removeThermometer_14 hf (fun t_2 ht_2 hf => ?_)
    refine r_astore_n C [(2, .ref (rA G 5 t_2)), (0, .ref (rA G 1 t0)), (1, .int v1)] hl (by decide) rfl rfl dX2_removeThermometer_15 (fun ls hl => ?_)
    refine r_iload_n C hl 2 rfl rfl dX2_removeThermometer_16 ?_
    refine r_istore_n C [(3, .int v1), (2, .ref (rA G 5 t_2)), (0, .ref (rA G 1 t0)), (1, .int v1)] hl (by decide) rfl rfl dX2_removeThermometer_17 (fun ls hl => ?_)
    refine r_jn (fun k48 : OM → Option (Unit × OM) => ∀ (o_3 : OM) H1 L1 ls, Hp G o_3 s H1 L1 → lv_has ls 4 [(0, .ref (rA G 1 t0)), (2, .ref (rA G 5 t_2))] → k48 o_3 = some (r, o9) → W p l e rmX2_removeThermometer s m args below meth c H1 L1 0 0 (Qm G none o9 rmX2_removeThermometer below args s) (F0 m 48 ls [])) hf ?_ (fun k48 j48 hf => ?_)
    · intro o_3 H1 L1 ls  P hl hf
      refine r_aload_n C hl 0 rfl rfl dX2_removeThermometer_48 ?_
      refine r_dup C rfl dX2_removeThermometer_49 ?_
      refine gf_1_2 C P ht0 wd_137 dX2_removeThermometer_50 ?_
      refine r_iconst C (v := 1) (by decide) dX2_removeThermometer_53 ?_
      refine r_isub C dX2_removeThermometer_54 ?_
      refine pf_1_2 C P ht0 wd_137 dX2_removeThermometer_55 hf (fun o_4 H1 L1 P hf => ?_)
      refine r_aload_n C hl 0 rfl rfl dX2_removeThermometer_58 ?_
      refine gf_1_7 C P ht0 wd_147 dX2_removeThermometer_59 ?_
      refine r_aload_n C hl 0 rfl rfl dX2_removeThermometer_62 ?_
      refine gf_1_2 C P ht0 wd_137 dX2_removeThermometer_63 ?_
      refine r_aload_n C hl 1 rfl rfl dX2_removeThermometer_66 ?_
      refine r_astT C P ht0 ht_2 dX2_removeThermometer_67 hf (fun o_5 H1 L1 P hf => ?_)
      exact r_vret C P (rm := rmX2_removeThermometer) ⟨rfl, rfl⟩ dX2_removeThermometer_68 hf
    exact lX2_removeThermometer_18 C ht0 ht_2 j48 FU o v1 _ _ _ P (lv_sub hl [2, 1, 0] rfl) hf
  · exact r_vret C P (rm := rmX2_removeThermometer) ⟨rfl, rfl⟩ dX2_removeThermometer_8 hf
theorem ctX2_removeThermometer (l : Launch) (G : Gd) (o : OM) (t0 : Nat) (v1 : Int32) (ht0 : okb 1 t0 = true) {r : Unit} {o9 : OM} (hf : F_X2_removeThermometer o t0 v1 = some (r, o9)) : Ct l yX2_removeThermometer cX2_removeThermometer 4 none rmX2_removeThermometer G [.ref (rA G 1 t0), .int v1] o none o9 := ct_of (by decide +kernel) (Nat.le_of_ble_eq_true rfl) (fun p e s m below meth c ls C P hl => wX2_removeThermometer C ht0 P hl hf)
theorem dX2_creepOf_0 : Dc cX2_creepOf 0 (.aload_n 1) 1 1 := ⟨by decide +kernel, rfl⟩
theorem dX2_creepOf_1 : Dc cX2_creepOf 1 (.getfield 82) 3 4 := ⟨by decide +kernel, rfl⟩
theorem dX2_creepOf_4 : Dj cX2_creepOf 4 (.ifCond .lt 23) 3 7 (23) 27 := ⟨by decide +kernel, rfl, by decide⟩
theorem dX2_creepOf_7 : Dc cX2_creepOf 7 (.aload_n 1) 1 8 := ⟨by decide +kernel, rfl⟩
theorem dX2_creepOf_8 : Dc cX2_creepOf 8 (.getfield 82) 3 11 := ⟨by decide +kernel, rfl⟩
theorem dX2_creepOf_11 : Dc cX2_creepOf 11 (.iconst 3) 1 12 := ⟨by decide +kernel, rfl⟩
theorem dX2_creepOf_12 : Dj cX2_creepOf 12 (.if_icmp .gt 15) 3 15 (15) 27 := ⟨by decide +kernel, rfl, by decide⟩
theorem dX2_creepOf_15 : Dc cX2_creepOf 15 (.aload_n 0) 1 16 := ⟨by decide +kernel, rfl⟩
theorem dX2_creepOf_16 : Dc cX2_creepOf 16 (.getfield 33) 3 19 := ⟨by decide +kernel, rfl⟩
theorem dX2_creepOf_19 : Dc cX2_creepOf 19 (.aload_n 1) 1 20 := ⟨by decide +kernel, rfl⟩
theorem dX2_creepOf_20 : Dc cX2_creepOf 20 (.getfield 82) 3 23 := ⟨by decide +kernel, rfl⟩
theorem dX2_creepOf_23 : Dc cX2_creepOf 23 (.iaload) 1 24 := ⟨by decide +kernel, rfl⟩
theorem dX2_creepOf_24 : Dj cX2_creepOf 24 (.goto 4) 3 27 (4) 28 := ⟨by decide +kernel, rfl, by decide⟩
theorem dX2_creepOf_27 : Dc cX2_creepOf 27 (.iconst 0) 1 28 := ⟨by decide +kernel, rfl⟩
theorem dX2_creepOf_28 : Dc cX2_creepOf 28 (.ireturn) 1 29 := ⟨by decide +kernel, rfl⟩
def F_X2_creepOf (o : OM) (t0 : Nat) (t1 : Nat) : Option Int32 := bd (fun (s_1 : Int32) => some s_1) (fun k28 => bd (fun (_ : Unit) => k28 ((0 : Int32))) (fun k27 => if (rd o 5 t1 2) < 0 then (k27 ()) else (if ((3 : Int32)) < (rd o 5 t1 2) then (k27 ()) else (grd (inB (rd o 5 t1 2) 7) (k28 (rd o 3 t0 (rd o 5 t1 2).toNatClampNeg))))))
abbrev rmX2_creepOf : Room := { frames := 0, cells := 0, slots := 0, locals := 0 }
set_option maxHeartbeats 4000000 in
set_option maxRecDepth 100000 in
theorem wX2_creepOf {G : Gd} {p : Program} {l : Launch} {e : Env} {s : State} {m : MethodId} {args : Array Value} {below : List Frame} {meth : Method} {c : Code} {o : OM} {H : Heap} {L0 : List Loc} {ls : Array Slot} {r : Int32} {t0 : Nat} {t1 : Nat} (C : Cx G RX2 cX2_creepOf 2 (some .int) p s m args meth c) (ht0 : okb 1 t0 = true) (ht1 : okb 5 t1 = true) (P : Hp G o s H L0) (hl : lv_has ls 2 [(0, .ref (rA G 1 t0)), (1, .ref (rA G 5 t1))]) (hf : F_X2_creepOf o t0 t1 = some r) : W p l e rmX2_creepOf s m args below meth c H L0 0 0 (Qm G (some (.int r)) o rmX2_creepOf below args s) (F0 m 0 ls []) := by
  unfold F_X2_creepOf at hf
  refine r_aload_n C hl 1 rfl rfl dX2_creepOf_0 ?_
  refine gf_5_2 C P ht1 wd_100 dX2_creepOf_1 ?_
  refine r_jn (fun k28 : Int32 → Option Int32 => ∀ (s_1 : Int32) H1 L1 ls, Hp G o s H1 L1 → lv_has ls 2 [] → k28 s_1 = some r → W p l e rmX2_creepOf s m args below meth c H1 L1 0 0 (Qm G (some (.int r)) o rmX2_creepOf below args s) (F0 m 28 ls [.int s_1])) hf ?_ (fun k28 j28 hf => ?_)
  · intro s_1 H1 L1 ls  P hl hf
    exact q_iret C P (rm := rmX2_creepOf) ⟨rfl, rfl⟩ dX2_creepOf_28 hf
  refine r_jn (fun k27 : Unit → Option Int32 => ∀ H1 L1 ls, Hp G o s H1 L1 → lv_has ls 2 [] → k27 () = some r → W p l e rmX2_creepOf s m args below meth c H1 L1 0 0 (Qm G (some (.int r)) o rmX2_creepOf below args s) (F0 m 27 ls [])) hf ?_ (fun k27 j27 hf => ?_)
  · intro  H1 L1 ls  P hl hf
    refine r_iconst C (v := 0) (by decide) dX2_creepOf_27 ?_
    exact j28 ((0 : Int32)) _ _ _ P (lv_sub hl [] rfl) hf
  refine r_if_lt C dX2_creepOf_4 hf (fun hf => ?_) (fun hf => ?_)
  · exact j27  _ _ _ P (lv_sub hl [] rfl) hf
  · refine r_aload_n C hl 1 rfl rfl dX2_creepOf_7 ?_
    refine gf_5_2 C P ht1 wd_100 dX2_creepOf_8 ?_
    refine r_iconst C (v := 3) (by decide) dX2_creepOf_11 ?_
    refine r_icmp_gt C dX2_creepOf_12 hf (fun hf => ?_) (fun hf => ?_)
    · exact j27  _ _ _ P (lv_sub hl [] rfl) hf
    · refine r_aload_n C hl 0 rfl rfl dX2_creepOf_15 ?_
      refine gf_1_6 C P ht0 wd_145 dX2_creepOf_16 ?_
      refine r_aload_n C hl 1 rfl rfl dX2_creepOf_19 ?_
      refine gf_5_2 C P ht1 wd_100 dX2_creepOf_20 ?_
      refine r_iald C P (k := 3) (i := t0) (n := 7) (fun _ _ => rfl) ht0 dX2_creepOf_23 hf (fun hf => ?_)
      refine r_goto C dX2_creepOf_24 ?_
      exact j28 (rd o 3 t0 (rd o 5 t1 2).toNatClampNeg) _ _ _ P (lv_sub hl [] rfl) hf
theorem ctX2_creepOf (l : Launch) (G : Gd) (o : OM) (t0 : Nat) (t1 : Nat) (ht0 : okb 1 t0 = true) (ht1 : okb 5 t1 = true) {r : Int32} (hf : F_X2_creepOf o t0 t1 = some r) : Ct l yX2_creepOf cX2_creepOf 2 (some .int) rmX2_creepOf G [.ref (rA G 1 t0), .ref (rA G 5 t1)] o (some (.int r)) o := ct_of (by decide +kernel) (Nat.le_of_ble_eq_true rfl) (fun p e s m below meth c ls C P hl => wX2_creepOf C ht0 ht1 P hl hf)
theorem cf_X3_47 : CallF true RX3 47 yJ9_floorDiv_7cf53 cJ9_floorDiv_7cf53 3 (some .int) 2 := ⟨wd_461, (by rw [if_pos rfl]; exact wd_462), wd_23, wd_463, by decide, by decide +kernel⟩
theorem dX3_creepOfYear_0 : Dc cX3_creepOfYear 0 (.iload_n 1) 1 1 := ⟨by decide +kernel, rfl⟩
theorem dX3_creepOfYear_1 : Dc cX3_creepOfYear 1 (.iconst 1) 1 2 := ⟨by decide +kernel, rfl⟩
theorem dX3_creepOfYear_2 : Dc cX3_creepOfYear 2 (.iadd) 1 3 := ⟨by decide +kernel, rfl⟩
theorem dX3_creepOfYear_3 : Dc cX3_creepOfYear 3 (.istore_n 2) 1 4 := ⟨by decide +kernel, rfl⟩
theorem dX3_creepOfYear_4 : Dc cX3_creepOfYear 4 (.iload_n 2) 1 5 := ⟨by decide +kernel, rfl⟩
theorem dX3_creepOfYear_5 : Dj cX3_creepOfYear 5 (.ifCond .le 11) 3 8 (11) 16 := ⟨by decide +kernel, rfl, by decide⟩
theorem dX3_creepOfYear_8 : Dc cX3_creepOfYear 8 (.iload_n 0) 1 9 := ⟨by decide +kernel, rfl⟩
theorem dX3_creepOfYear_9 : Dc cX3_creepOfYear 9 (.iload_n 2) 1 10 := ⟨by decide +kernel, rfl⟩
theorem dX3_creepOfYear_10 : Dc cX3_creepOfYear 10 (.invokestatic 47) 3 13 := ⟨by decide +kernel, rfl⟩
theorem dX3_creepOfYear_13 : Dj cX3_creepOfYear 13 (.goto 4) 3 16 (4) 17 := ⟨by decide +kernel, rfl, by decide⟩
theorem dX3_creepOfYear_16 : Dc cX3_creepOfYear 16 (.iconst 0) 1 17 := ⟨by decide +kernel, rfl⟩
theorem dX3_creepOfYear_17 : Dc cX3_creepOfYear 17 (.ireturn) 1 18 := ⟨by decide +kernel, rfl⟩
def F_X3_creepOfYear (o : OM) (v0 : Int32) (v1 : Int32) : Option Int32 := bd (v1 + ((1 : Int32))) (fun v2_1 : Int32 => bd (fun (s_2 : Int32) => some s_2) (fun k17 => if v2_1 ≤ 0 then (k17 ((0 : Int32))) else (bq (F_J9_floorDiv_7cf53 o v0 v2_1) (fun r_3 => k17 r_3))))
abbrev rmX3_creepOfYear : Room := { frames := 1, cells := 0, slots := 0, locals := 22 }
set_option maxHeartbeats 4000000 in
set_option maxRecDepth 100000 in
theorem wX3_creepOfYear {G : Gd} {p : Program} {l : Launch} {e : Env} {s : State} {m : MethodId} {args : Array Value} {below : List Frame} {meth : Method} {c : Code} {o : OM} {H : Heap} {L0 : List Loc} {ls : Array Slot} {r : Int32} {v0 : Int32} {v1 : Int32} (C : Cx G RX3 cX3_creepOfYear 3 (some .int) p s m args meth c)  (P : Hp G o s H L0) (hl : lv_has ls 3 [(0, .int v0), (1, .int v1)]) (hf : F_X3_creepOfYear o v0 v1 = some r) : W p l e rmX3_creepOfYear s m args below meth c H L0 0 0 (Qm G (some (.int r)) o rmX3_creepOfYear below args s) (F0 m 0 ls []) := by
  unfold F_X3_creepOfYear at hf
  refine r_iload_n C hl 1 rfl rfl dX3_creepOfYear_0 ?_
  refine r_iconst C (v := 1) (by decide) dX3_creepOfYear_1 ?_
  refine r_iadd2 C dX3_creepOfYear_2 ?_
  refine r_bdi hf (fun v2_1 hf => ?_)
  refine r_istore_n C [(2, .int v2_1), (0, .int v0), (1, .int v1)] hl (by decide) rfl rfl dX3_creepOfYear_3 (fun ls hl => ?_)
  refine r_iload_n C hl 0 rfl rfl dX3_creepOfYear_4 ?_
  refine r_jn (fun k17 : Int32 → Option Int32 => ∀ (s_2 : Int32) H1 L1 ls, Hp G o s H1 L1 → lv_has ls 3 [] → k17 s_2 = some r → W p l e rmX3_creepOfYear s m args below meth c H1 L1 0 0 (Qm G (some (.int r)) o rmX3_creepOfYear below args s) (F0 m 17 ls [.int s_2])) hf ?_ (fun k17 j17 hf => ?_)
  · intro s_2 H1 L1 ls  P hl hf
    exact q_iret C P (rm := rmX3_creepOfYear) ⟨rfl, rfl⟩ dX3_creepOfYear_17 hf
  refine r_if_le C dX3_creepOfYear_5 hf (fun hf => ?_) (fun hf => ?_)
  · refine r_iconst C (v := 0) (by decide) dX3_creepOfYear_16 ?_
    exact j17 ((0 : Int32)) _ _ _ P (lv_sub hl [] rfl) hf
  · refine r_iload_n C hl 1 rfl rfl dX3_creepOfYear_8 ?_
    refine r_iload_n C hl 0 rfl rfl dX3_creepOfYear_9 ?_
    refine r_qSi C P cf_X3_47 (rm := rmJ9_floorDiv_7cf53) [.int v0, .int v2_1] [] hf (fun _ h => ctJ9_floorDiv_7cf53 l G o v0 v2_1 h) ⟨rfl, rfl⟩ ⟨Nat.le_of_ble_eq_true rfl, Nat.le_of_ble_eq_true rfl⟩ ⟨Nat.le_of_ble_eq_true rfl, Nat.le_of_ble_eq_true rfl⟩ rfl rfl hl.1 (Nat.le_of_ble_eq_true rfl) dX3_creepOfYear_10 (fun r_3 H1 L1 P hf => ?_)
    refine r_goto C dX3_creepOfYear_13 ?_
    exact j17 r_3 _ _ _ P (lv_sub hl [] rfl) hf
theorem ctX3_creepOfYear (l : Launch) (G : Gd) (o : OM) (v0 : Int32) (v1 : Int32)  {r : Int32} (hf : F_X3_creepOfYear o v0 v1 = some r) : Ct l yX3_creepOfYear cX3_creepOfYear 3 (some .int) rmX3_creepOfYear G [.int v0, .int v1] o (some (.int r)) o := ct_of (by decide +kernel) (Nat.le_of_ble_eq_true rfl) (fun p e s m below meth c ls C P hl => wX3_creepOfYear C  P hl hf)
theorem cf_X3_53 : CallF true RX3 53 yX3_creepOfYear cX3_creepOfYear 3 (some .int) 2 := ⟨wd_458, (by rw [if_pos rfl]; exact wd_459), wd_12, wd_460, by decide, by decide +kernel⟩
theorem dX3_growOlder_0 : Dc cX3_growOlder 0 (.aload_n 0) 1 1 := ⟨by decide +kernel, rfl⟩
theorem dX3_growOlder_1 : Dc cX3_growOlder 1 (.dup) 1 2 := ⟨by decide +kernel, rfl⟩
theorem dX3_growOlder_2 : Dc cX3_growOlder 2 (.getfield 34) 3 5 := ⟨by decide +kernel, rfl⟩
theorem dX3_growOlder_5 : Dc cX3_growOlder 5 (.iload_n 1) 1 6 := ⟨by decide +kernel, rfl⟩
theorem dX3_growOlder_6 : Dc cX3_growOlder 6 (.aload_n 0) 1 7 := ⟨by decide +kernel, rfl⟩
theorem dX3_growOlder_7 : Dc cX3_growOlder 7 (.getfield 31) 3 10 := ⟨by decide +kernel, rfl⟩
theorem dX3_growOlder_10 : Dc cX3_growOlder 10 (.invokestatic 53) 3 13 := ⟨by decide +kernel, rfl⟩
theorem dX3_growOlder_13 : Dc cX3_growOlder 13 (.iadd) 1 14 := ⟨by decide +kernel, rfl⟩
theorem dX3_growOlder_14 : Dc cX3_growOlder 14 (.putfield 34) 3 17 := ⟨by decide +kernel, rfl⟩
theorem dX3_growOlder_17 : Dc cX3_growOlder 17 (.aload_n 0) 1 18 := ⟨by decide +kernel, rfl⟩
theorem dX3_growOlder_18 : Dc cX3_growOlder 18 (.dup) 1 19 := ⟨by decide +kernel, rfl⟩
theorem dX3_growOlder_19 : Dc cX3_growOlder 19 (.getfield 31) 3 22 := ⟨by decide +kernel, rfl⟩
theorem dX3_growOlder_22 : Dc cX3_growOlder 22 (.iconst 1) 1 23 := ⟨by decide +kernel, rfl⟩
theorem dX3_growOlder_23 : Dc cX3_growOlder 23 (.iadd) 1 24 := ⟨by decide +kernel, rfl⟩
theorem dX3_growOlder_24 : Dc cX3_growOlder 24 (.putfield 31) 3 27 := ⟨by decide +kernel, rfl⟩
theorem dX3_growOlder_27 : Dc cX3_growOlder 27 (.return_) 1 28 := ⟨by decide +kernel, rfl⟩
def F_X3_growOlder (o : OM) (t0 : Nat) (v1 : Int32) : Option (Unit × OM) := bq (F_X3_creepOfYear o v1 (rd o 5 t0 3)) (fun r_1 => bd (wr o 5 t0 4 ((rd o 5 t0 4) + r_1)) (fun o_2 : OM => bd (wr o_2 5 t0 3 ((rd o_2 5 t0 3) + ((1 : Int32)))) (fun o_3 : OM => some ((), o_3))))
abbrev rmX3_growOlder : Room := { frames := 2, cells := 0, slots := 0, locals := 44 }
set_option maxHeartbeats 4000000 in
set_option maxRecDepth 100000 in
theorem wX3_growOlder {G : Gd} {p : Program} {l : Launch} {e : Env} {s : State} {m : MethodId} {args : Array Value} {below : List Frame} {meth : Method} {c : Code} {o : OM} {H : Heap} {L0 : List Loc} {ls : Array Slot} {r : Unit} {o9 : OM} {t0 : Nat} {v1 : Int32} (C : Cx G RX3 cX3_growOlder 2 none p s m args meth c) (ht0 : okb 5 t0 = true) (P : Hp G o s H L0) (hl : lv_has ls 2 [(0, .ref (rA G 5 t0)), (1, .int v1)]) (hf : F_X3_growOlder o t0 v1 = some (r, o9)) : W p l e rmX3_growOlder s m args below meth c H L0 0 0 (Qm G none o9 rmX3_growOlder below args s) (F0 m 0 ls []) := by
  unfold F_X3_growOlder at hf
  refine r_aload_n C hl 0 rfl rfl dX3_growOlder_0 ?_
  refine r_dup C rfl dX3_growOlder_1 ?_
  refine gf_5_4 C P ht0 wd_105 dX3_growOlder_2 ?_
  refine r_iload_n C hl 1 rfl rfl dX3_growOlder_5 ?_
  refine r_aload_n C hl 0 rfl rfl dX3_growOlder_6 ?_
  refine gf_5_3 C P ht0 wd_102 dX3_growOlder_7 ?_
  refine r_qSi C P cf_X3_53 (rm := rmX3_creepOfYear) [.int v1, .int (rd o 5 t0 3)] [.int (rd o 5 t0 4), .ref (rA G 5 t0)] hf (fun _ h => ctX3_creepOfYear l G o v1 (rd o 5 t0 3) h) ⟨rfl, rfl⟩ ⟨Nat.le_of_ble_eq_true rfl, Nat.le_of_ble_eq_true rfl⟩ ⟨Nat.le_of_ble_eq_true rfl, Nat.le_of_ble_eq_true rfl⟩ rfl rfl hl.1 (Nat.le_of_ble_eq_true rfl) dX3_growOlder_10 (fun r_1 H1 L1 P hf => ?_)
  refine r_iadd2 C dX3_growOlder_13 ?_
  refine pf_5_4 C P ht0 wd_105 dX3_growOlder_14 hf (fun o_2 H1 L1 P hf => ?_)
  refine r_aload_n C hl 0 rfl rfl dX3_growOlder_17 ?_
  refine r_dup C rfl dX3_growOlder_18 ?_
  refine gf_5_3 C P ht0 wd_102 dX3_growOlder_19 ?_
  refine r_iconst C (v := 1) (by decide) dX3_growOlder_22 ?_
  refine r_iadd2 C dX3_growOlder_23 ?_
  refine pf_5_3 C P ht0 wd_102 dX3_growOlder_24 hf (fun o_3 H1 L1 P hf => ?_)
  exact r_vret C P (rm := rmX3_growOlder) ⟨rfl, rfl⟩ dX3_growOlder_27 hf
theorem ctX3_growOlder (l : Launch) (G : Gd) (o : OM) (t0 : Nat) (v1 : Int32) (ht0 : okb 5 t0 = true) {r : Unit} {o9 : OM} (hf : F_X3_growOlder o t0 v1 = some (r, o9)) : Ct l yX3_growOlder cX3_growOlder 2 none rmX3_growOlder G [.ref (rA G 5 t0), .int v1] o none o9 := ct_of (by decide +kernel) (Nat.le_of_ble_eq_true rfl) (fun p e s m below meth c ls C P hl => wX3_growOlder C ht0 P hl hf)
theorem cf_X2_74 : CallF false RX2 74 yX2_creepOf cX2_creepOf 2 (some .int) 1 := ⟨wd_450, (by rw [if_neg (by decide)]; exact ⟨wd_452, wd_2⟩), wd_11, wd_453, by decide, by decide +kernel⟩
theorem cf_X2_78 : CallF false RX2 78 yX3_growOlder cX3_growOlder 2 none 1 := ⟨wd_454, (by rw [if_neg (by decide)]; exact ⟨wd_455, wd_456⟩), wd_12, wd_457, by decide, by decide +kernel⟩
theorem dX2_letPass_0 : Dc cX2_letPass 0 (.iconst 0) 1 1 := ⟨by decide +kernel, rfl⟩
theorem dX2_letPass_1 : Dc cX2_letPass 1 (.istore_n 2) 1 2 := ⟨by decide +kernel, rfl⟩
theorem dX2_letPass_2 : Dc cX2_letPass 2 (.iload_n 2) 1 3 := ⟨by decide +kernel, rfl⟩
theorem dX2_letPass_3 : Dc cX2_letPass 3 (.iload_n 1) 1 4 := ⟨by decide +kernel, rfl⟩
theorem dX2_letPass_4 : Dj cX2_letPass 4 (.if_icmp .ge 44) 3 7 (44) 48 := ⟨by decide +kernel, rfl, by decide⟩
theorem dX2_letPass_7 : Dc cX2_letPass 7 (.iconst 0) 1 8 := ⟨by decide +kernel, rfl⟩
theorem dX2_letPass_8 : Dc cX2_letPass 8 (.istore_n 3) 1 9 := ⟨by decide +kernel, rfl⟩
theorem dX2_letPass_9 : Dc cX2_letPass 9 (.iload_n 3) 1 10 := ⟨by decide +kernel, rfl⟩
theorem dX2_letPass_10 : Dc cX2_letPass 10 (.aload_n 0) 1 11 := ⟨by decide +kernel, rfl⟩
theorem dX2_letPass_11 : Dc cX2_letPass 11 (.getfield 49) 3 14 := ⟨by decide +kernel, rfl⟩
theorem dX2_letPass_14 : Dj cX2_letPass 14 (.if_icmp .ge 28) 3 17 (28) 42 := ⟨by decide +kernel, rfl, by decide⟩
theorem dX2_letPass_17 : Dc cX2_letPass 17 (.aload_n 0) 1 18 := ⟨by decide +kernel, rfl⟩
theorem dX2_letPass_18 : Dc cX2_letPass 18 (.getfield 38) 3 21 := ⟨by decide +kernel, rfl⟩
theorem dX2_letPass_21 : Dc cX2_letPass 21 (.iload_n 3) 1 22 := ⟨by decide +kernel, rfl⟩
theorem dX2_letPass_22 : Dc cX2_letPass 22 (.aaload) 1 23 := ⟨by decide +kernel, rfl⟩
theorem dX2_letPass_23 : Dc cX2_letPass 23 (.aload_n 0) 1 24 := ⟨by decide +kernel, rfl⟩
theorem dX2_letPass_24 : Dc cX2_letPass 24 (.aload_n 0) 1 25 := ⟨by decide +kernel, rfl⟩
theorem dX2_letPass_25 : Dc cX2_letPass 25 (.getfield 38) 3 28 := ⟨by decide +kernel, rfl⟩
theorem dX2_letPass_28 : Dc cX2_letPass 28 (.iload_n 3) 1 29 := ⟨by decide +kernel, rfl⟩
theorem dX2_letPass_29 : Dc cX2_letPass 29 (.aaload) 1 30 := ⟨by decide +kernel, rfl⟩
theorem dX2_letPass_30 : Dc cX2_letPass 30 (.invokevirtual 74) 3 33 := ⟨by decide +kernel, rfl⟩
theorem dX2_letPass_33 : Dc cX2_letPass 33 (.invokevirtual 78) 3 36 := ⟨by decide +kernel, rfl⟩
theorem dX2_letPass_36 : Dc cX2_letPass 36 (.iinc 3 1) 3 39 := ⟨by decide +kernel, rfl⟩
theorem dX2_letPass_39 : Dj cX2_letPass 39 (.goto (-30)) 3 42 (-30) 9 := ⟨by decide +kernel, rfl, by decide⟩
theorem dX2_letPass_42 : Dc cX2_letPass 42 (.iinc 2 1) 3 45 := ⟨by decide +kernel, rfl⟩
theorem dX2_letPass_45 : Dj cX2_letPass 45 (.goto (-43)) 3 48 (-43) 2 := ⟨by decide +kernel, rfl, by decide⟩
theorem dX2_letPass_48 : Dc cX2_letPass 48 (.aload_n 0) 1 49 := ⟨by decide +kernel, rfl⟩
theorem dX2_letPass_49 : Dc cX2_letPass 49 (.dup) 1 50 := ⟨by decide +kernel, rfl⟩
theorem dX2_letPass_50 : Dc cX2_letPass 50 (.getfield 43) 3 53 := ⟨by decide +kernel, rfl⟩
theorem dX2_letPass_53 : Dc cX2_letPass 53 (.iload_n 1) 1 54 := ⟨by decide +kernel, rfl⟩
theorem dX2_letPass_54 : Dc cX2_letPass 54 (.iadd) 1 55 := ⟨by decide +kernel, rfl⟩
theorem dX2_letPass_55 : Dc cX2_letPass 55 (.putfield 43) 3 58 := ⟨by decide +kernel, rfl⟩
theorem dX2_letPass_58 : Dc cX2_letPass 58 (.return_) 1 59 := ⟨by decide +kernel, rfl⟩
def LX2_letPass_9 (k42 : OM → Option (Unit × OM)) (t0 : Nat) : Nat → OM → Int32 → Option (Unit × OM)
  | 0 => fun _ _ => none
  | n + 1 => fun o_8 v3_7 => if (rd o_8 1 t0 2) ≤ v3_7 then (k42 o_8) else (grd (inB v3_7 6) (bd (tid t0 (rd o_8 4 t0 v3_7.toNatClampNeg)) (fun t_9 : Nat => grd (inB v3_7 6) (bd (tid t0 (rd o_8 4 t0 v3_7.toNatClampNeg)) (fun t_10 : Nat => bq (F_X2_creepOf o_8 t0 t_10) (fun r_11 => bn (F_X3_growOlder o_8 t_9 r_11) (fun _ o_13 => bd (v3_7 + (1 : Int32)) (fun v3_14 : Int32 => (LX2_letPass_9 k42 t0 n) o_13 v3_14))))))))
def LX2_letPass_2 (k48 : OM → Option (Unit × OM)) (v1 : Int32) (t0 : Nat) : Nat → OM → Int32 → Option (Unit × OM)
  | 0 => fun _ _ => none
  | n + 1 => fun o_4 v2_3 => if v1 ≤ v2_3 then (k48 o_4) else (bd (fun (o_5 : OM) => bd (v2_3 + (1 : Int32)) (fun v2_6 : Int32 => (LX2_letPass_2 k48 v1 t0 n) o_5 v2_6)) (fun k42 => LX2_letPass_9 k42 t0 FU o_4 ((0 : Int32))))
def F_X2_letPass (o : OM) (t0 : Nat) (v1 : Int32) : Option (Unit × OM) := bd (fun (o_1 : OM) => bd (wr o_1 1 t0 0 ((rd o_1 1 t0 0) + v1)) (fun o_2 : OM => some ((), o_2))) (fun k48 => LX2_letPass_2 k48 v1 t0 FU o ((0 : Int32)))
abbrev rmX2_letPass : Room := { frames := 3, cells := 0, slots := 0, locals := 65 }
set_option maxHeartbeats 4000000 in
set_option maxRecDepth 100000 in
theorem lX2_letPass_9 {G : Gd} {p : Program} {l : Launch} {e : Env} {s : State} {m : MethodId} {args : Array Value} {below : List Frame} {meth : Method} {c : Code} {r : Unit} {o9 : OM} {t0 : Nat} {v1 : Int32} {v2_3 : Int32} (C : Cx G RX2 cX2_letPass 4 none p s m args meth c) (ht0 : okb 1 t0 = true) {k42 : OM → Option (Unit × OM)} (j42 : ∀ (o_5 : OM) H1 L1 ls, Hp G o_5 s H1 L1 → lv_has ls 4 [(0, .ref (rA G 1 t0)), (1, .int v1), (2, .int v2_3)] → k42 o_5 = some (r, o9) → W p l e rmX2_letPass s m args below meth c H1 L1 0 0 (Qm G none o9 rmX2_letPass below args s) (F0 m 42 ls [])) : ∀ (n : Nat) (o_8 : OM) (v3_7 : Int32) H1 L1 ls, Hp G o_8 s H1 L1 → lv_has ls 4 [(0, .ref (rA G 1 t0)), (1, .int v1), (2, .int v2_3), (3, .int v3_7)] → LX2_letPass_9 k42 t0 n o_8 v3_7 = some (r, o9) → W p l e rmX2_letPass s m args below meth c H1 L1 0 0 (Qm G none o9 rmX2_letPass below args s) (F0 m 9 ls []) := by
  intro n
  induction n with
  | zero =>
    intro o_8 v3_7 H1 L1 ls P hl hf
    exact nomatch hf
  | succ n ih =>
    intro o_8 v3_7 H1 L1 ls P hl hf
    rw [LX2_letPass_9.eq_2] at hf
    refine r_iload_n C hl 3 rfl rfl dX2_letPass_9 ?_
    refine r_aload_n C hl 0 rfl rfl dX2_letPass_10 ?_
    refine gf_1_2 C P ht0 wd_137 dX2_letPass_11 ?_
    refine r_icmp_ge C dX2_letPass_14 hf (fun hf => ?_) (fun hf => ?_)
    · exact j42 o_8 _ _ _ P (lv_sub hl [0, 1, 2] rfl) hf
    · refine r_aload_n C hl 0 rfl rfl dX2_letPass_17 ?_
      refine gf_1_7 C P ht0 wd_147 dX2_letPass_18 ?_
      refine r_iload_n C hl 3 rfl rfl dX2_letPass_21 ?_
      refine r_aldT C P ht0 dX2_letPass_22 hf (fun t_9 ht_9 hf => ?_)
      refine r_aload_n C hl 0 rfl rfl dX2_letPass_23 ?_
      refine r_aload_n C hl 0 rfl rfl dX2_letPass_24 ?_
      refine gf_1_7 C P ht0 wd_147 dX2_letPass_25 ?_
      refine r_iload_n C hl 3 rfl rfl dX2_letPass_28 ?_
      refine r_aldT C P ht0 dX2_letPass_29 hf (fun t_10 ht_10 hf => ?_)
      refine r_qVi C P cf_X2_74 (rm := rmX2_creepOf) 1 t0 (fun _ _ => ⟨_, rfl⟩) rfl rfl ht0 [.ref (rA G 5 t_10)] [.ref (rA G 5 t_9)] hf (fun _ h => ctX2_creepOf l G o_8 t0 t_10 ht0 ht_10 h) ⟨rfl, rfl⟩ ⟨Nat.le_of_ble_eq_true rfl, Nat.le_of_ble_eq_true rfl⟩ ⟨Nat.le_of_ble_eq_true rfl, Nat.le_of_ble_eq_true rfl⟩ rfl rfl hl.1 (Nat.le_of_ble_eq_true rfl) dX2_letPass_30 (fun r_11 H1 L1 P hf => ?_)
      refine r_cVv C P cf_X2_78 (rm := rmX3_growOlder) 5 t_9 (fun _ _ => ⟨_, rfl⟩) rfl rfl ht_9 [.int r_11] [] hf (fun _ _ h => ctX3_growOlder l G o_8 t_9 r_11 ht_9 h) ⟨rfl, rfl⟩ ⟨Nat.le_of_ble_eq_true rfl, Nat.le_of_ble_eq_true rfl⟩ ⟨Nat.le_of_ble_eq_true rfl, Nat.le_of_ble_eq_true rfl⟩ rfl rfl hl.1 (Nat.le_of_ble_eq_true rfl) dX2_letPass_33 (fun _ o_13 H1 L1 P hf => ?_)
      refine r_iinc C (fun v3_14 => [(3, .int v3_14), (0, .ref (rA G 1 t0)), (1, .int v1), (2, .int v2_3)]) (w := 1) 3 hl rfl (by decide) (by decide) (fun _ => rfl) dX2_letPass_36 hf (fun v3_14 ls hl hf => ?_)
      refine r_goto C dX2_letPass_39 ?_
      exact ih o_13 v3_14 _ _ _ P (lv_sub hl [1, 2, 3, 0] rfl) hf
set_option maxHeartbeats 4000000 in
set_option maxRecDepth 100000 in
theorem lX2_letPass_2 {G : Gd} {p : Program} {l : Launch} {e : Env} {s : State} {m : MethodId} {args : Array Value} {below : List Frame} {meth : Method} {c : Code} {r : Unit} {o9 : OM} {v1 : Int32} {t0 : Nat} (C : Cx G RX2 cX2_letPass 4 none p s m args meth c) (ht0 : okb 1 t0 = true) {k48 : OM → Option (Unit × OM)} (j48 : ∀ (o_1 : OM) H1 L1 ls, Hp G o_1 s H1 L1 → lv_has ls 4 [(0, .ref (rA G 1 t0)), (1, .int v1)] → k48 o_1 = some (r, o9) → W p l e rmX2_letPass s m args below meth c H1 L1 0 0 (Qm G none o9 rmX2_letPass below args s) (F0 m 48 ls [])) : ∀ (n : Nat) (o_4 : OM) (v2_3 : Int32) H1 L1 ls, Hp G o_4 s H1 L1 → lv_has ls 4 [(0, .ref (rA G 1 t0)), (1, .int v1), (2, .int v2_3)] → LX2_letPass_2 k48 v1 t0 n o_4 v2_3 = some (r, o9) → W p l e rmX2_letPass s m args below meth c H1 L1 0 0 (Qm G none o9 rmX2_letPass below args s) (F0 m 2 ls []) := by
  intro n
  induction n with
  | zero =>
    intro o_4 v2_3 H1 L1 ls P hl hf
    exact nomatch hf
  | succ n ih =>
    intro o_4 v2_3 H1 L1 ls P hl hf
    rw [LX2_letPass_2.eq_2] at hf
    refine r_iload_n C hl 2 rfl rfl dX2_letPass_2 ?_
    refine r_iload_n C hl 1 rfl rfl dX2_letPass_3 ?_
    refine r_icmp_ge C dX2_letPass_4 hf (fun hf => ?_) (fun hf => ?_)
    · exact j48 o_4 _ _ _ P (lv_sub hl [0, 1] rfl) hf
    · refine r_iconst C (v := 0) (by decide) dX2_letPass_7 ?_
      refine r_istore_n C [(3, .int ((0 : Int32))), (0, .ref (rA G 1 t0)), (1, .int v1), (2, .int v2_3)] hl (by decide) rfl rfl dX2_letPass_8 (fun ls hl => ?_)
      refine r_jn (fun k42 : OM → Option (Unit × OM) => ∀ (o_5 : OM) H1 L1 ls, Hp G o_5 s H1 L1 → lv_has ls 4 [(0, .ref (rA G 1 t0)), (1, .int v1), (2, .int v2_3)] → k42 o_5 = some (r, o9) → W p l e rmX2_letPass s m args below meth c H1 L1 0 0 (Qm G none o9 rmX2_letPass below args s) (F0 m 42 ls [])) hf ?_ (fun k42 j42 hf => ?_)
      · intro o_5 H1 L1 ls  P hl hf
        refine r_iinc C (fun v2_6 => [(2, .int v2_6), (0, .ref (rA G 1 t0)), (1, .int v1)]) (w := 1) 2 hl rfl (by decide) (by decide) (fun _ => rfl) dX2_letPass_42 hf (fun v2_6 ls hl hf => ?_)
        refine r_goto C dX2_letPass_45 ?_
        exact ih o_5 v2_6 _ _ _ P (lv_sub hl [1, 2, 0] rfl) hf
      exact lX2_letPass_9 C ht0 j42 FU o_4 ((0 : Int32)) _ _ _ P (lv_sub hl [1, 2, 3, 0] rfl) hf
set_option maxHeartbeats 4000000 in
set_option maxRecDepth 100000 in
theorem wX2_letPass {G : Gd} {p : Program} {l : Launch} {e : Env} {s : State} {m : MethodId} {args : Array Value} {below : List Frame} {meth : Method} {c : Code} {o : OM} {H : Heap} {L0 : List Loc} {ls : Array Slot} {r : Unit} {o9 : OM} {t0 : Nat} {v1 : Int32} (C : Cx G RX2 cX2_letPass 4 none p s m args meth c) (ht0 : okb 1 t0 = true) (P : Hp G o s H L0) (hl : lv_has ls 4 [(0, .ref (rA G 1 t0)), (1, .int v1)]) (hf : F_X2_letPass o t0 v1 = some (r, o9)) : W p l e rmX2_letPass s m args below meth c H L0 0 0 (Qm G none o9 rmX2_letPass below args s) (F0 m 0 ls []) := by
  unfold F_X2_letPass at hf
  refine r_iconst C (v := 0) (by decide) dX2_letPass_0 ?_
  refine r_istore_n C [(2, .int ((0 : Int32))), (0, .ref (rA G 1 t0)), (1, .int v1)] hl (by decide) rfl rfl dX2_letPass_1 (fun ls hl => ?_)
  refine r_jn (fun k48 : OM → Option (Unit × OM) => ∀ (o_1 : OM) H1 L1 ls, Hp G o_1 s H1 L1 → lv_has ls 4 [(0, .ref (rA G 1 t0)), (1, .int v1)] → k48 o_1 = some (r, o9) → W p l e rmX2_letPass s m args below meth c H1 L1 0 0 (Qm G none o9 rmX2_letPass below args s) (F0 m 48 ls [])) hf ?_ (fun k48 j48 hf => ?_)
  · intro o_1 H1 L1 ls  P hl hf
    refine r_aload_n C hl 0 rfl rfl dX2_letPass_48 ?_
    refine r_dup C rfl dX2_letPass_49 ?_
    refine gf_1_0 C P ht0 wd_133 dX2_letPass_50 ?_
    refine r_iload_n C hl 1 rfl rfl dX2_letPass_53 ?_
    refine r_iadd2 C dX2_letPass_54 ?_
    refine pf_1_0 C P ht0 wd_133 dX2_letPass_55 hf (fun o_2 H1 L1 P hf => ?_)
    exact r_vret C P (rm := rmX2_letPass) ⟨rfl, rfl⟩ dX2_letPass_58 hf
  exact lX2_letPass_2 C ht0 j48 FU o ((0 : Int32)) _ _ _ P (lv_sub hl [1, 2, 0] rfl) hf
theorem ctX2_letPass (l : Launch) (G : Gd) (o : OM) (t0 : Nat) (v1 : Int32) (ht0 : okb 1 t0 = true) {r : Unit} {o9 : OM} (hf : F_X2_letPass o t0 v1 = some (r, o9)) : Ct l yX2_letPass cX2_letPass 4 none rmX2_letPass G [.ref (rA G 1 t0), .int v1] o none o9 := ct_of (by decide +kernel) (Nat.le_of_ble_eq_true rfl) (fun p e s m below meth c ls C P hl => wX2_letPass C ht0 P hl hf)
theorem dX2_isValid_0 : Dc cX2_isValid 0 (.aload_n 1) 1 1 := ⟨by decide +kernel, rfl⟩
theorem dX2_isValid_1 : Dc cX2_isValid 1 (.getfield 85) 3 4 := ⟨by decide +kernel, rfl⟩
theorem dX2_isValid_4 : Dc cX2_isValid 4 (.iconst (-1)) 1 5 := ⟨by decide +kernel, rfl⟩
theorem dX2_isValid_5 : Dj cX2_isValid 5 (.if_icmp .eq 26) 3 8 (26) 31 := ⟨by decide +kernel, rfl, by decide⟩
theorem dX2_isValid_8 : Dc cX2_isValid 8 (.aload_n 1) 1 9 := ⟨by decide +kernel, rfl⟩
theorem dX2_isValid_9 : Dc cX2_isValid 9 (.getfield 88) 3 12 := ⟨by decide +kernel, rfl⟩
theorem dX2_isValid_12 : Dc cX2_isValid 12 (.aload_n 1) 1 13 := ⟨by decide +kernel, rfl⟩
theorem dX2_isValid_13 : Dc cX2_isValid 13 (.getfield 91) 3 16 := ⟨by decide +kernel, rfl⟩
theorem dX2_isValid_16 : Dc cX2_isValid 16 (.isub) 1 17 := ⟨by decide +kernel, rfl⟩
theorem dX2_isValid_17 : Dc cX2_isValid 17 (.aload_n 0) 1 18 := ⟨by decide +kernel, rfl⟩
theorem dX2_isValid_18 : Dc cX2_isValid 18 (.getfield 33) 3 21 := ⟨by decide +kernel, rfl⟩
theorem dX2_isValid_21 : Dc cX2_isValid 21 (.bipush 6) 2 23 := ⟨by decide +kernel, rfl⟩
theorem dX2_isValid_23 : Dc cX2_isValid 23 (.iaload) 1 24 := ⟨by decide +kernel, rfl⟩
theorem dX2_isValid_24 : Dj cX2_isValid 24 (.if_icmp .gt 7) 3 27 (7) 31 := ⟨by decide +kernel, rfl, by decide⟩
theorem dX2_isValid_27 : Dc cX2_isValid 27 (.iconst 1) 1 28 := ⟨by decide +kernel, rfl⟩
theorem dX2_isValid_28 : Dj cX2_isValid 28 (.goto 4) 3 31 (4) 32 := ⟨by decide +kernel, rfl, by decide⟩
theorem dX2_isValid_31 : Dc cX2_isValid 31 (.iconst 0) 1 32 := ⟨by decide +kernel, rfl⟩
theorem dX2_isValid_32 : Dc cX2_isValid 32 (.ireturn) 1 33 := ⟨by decide +kernel, rfl⟩
def F_X2_isValid (o : OM) (t0 : Nat) (t1 : Nat) : Option Int32 := bd (fun (s_1 : Int32) => grd (isZ s_1) (some s_1)) (fun k32 => bd (fun (_ : Unit) => k32 ((0 : Int32))) (fun k31 => if (rd o 5 t1 5) = ((-1 : Int32)) then (k31 ()) else (grd (inB ((6 : Int32)) 7) (if (rd o 3 t0 ((6 : Int32)).toNatClampNeg) < ((rd o 5 t1 4) - (rd o 5 t1 6)) then (k31 ()) else (k32 ((1 : Int32)))))))
abbrev rmX2_isValid : Room := { frames := 0, cells := 0, slots := 0, locals := 0 }
set_option maxHeartbeats 4000000 in
set_option maxRecDepth 100000 in
theorem wX2_isValid {G : Gd} {p : Program} {l : Launch} {e : Env} {s : State} {m : MethodId} {args : Array Value} {below : List Frame} {meth : Method} {c : Code} {o : OM} {H : Heap} {L0 : List Loc} {ls : Array Slot} {r : Int32} {t0 : Nat} {t1 : Nat} (C : Cx G RX2 cX2_isValid 2 (some .boolean) p s m args meth c) (ht0 : okb 1 t0 = true) (ht1 : okb 5 t1 = true) (P : Hp G o s H L0) (hl : lv_has ls 2 [(0, .ref (rA G 1 t0)), (1, .ref (rA G 5 t1))]) (hf : F_X2_isValid o t0 t1 = some r) : W p l e rmX2_isValid s m args below meth c H L0 0 0 (Qm G (some (.int r)) o rmX2_isValid below args s) (F0 m 0 ls []) := by
  unfold F_X2_isValid at hf
  refine r_aload_n C hl 1 rfl rfl dX2_isValid_0 ?_
  refine gf_5_5 C P ht1 wd_110 dX2_isValid_1 ?_
  refine r_iconst C (v := -1) (by decide) dX2_isValid_4 ?_
  refine r_jn (fun k32 : Int32 → Option Int32 => ∀ (s_1 : Int32) H1 L1 ls, Hp G o s H1 L1 → lv_has ls 2 [] → k32 s_1 = some r → W p l e rmX2_isValid s m args below meth c H1 L1 0 0 (Qm G (some (.int r)) o rmX2_isValid below args s) (F0 m 32 ls [.int s_1])) hf ?_ (fun k32 j32 hf => ?_)
  · intro s_1 H1 L1 ls  P hl hf
    exact q_zret C P (rm := rmX2_isValid) ⟨rfl, rfl⟩ dX2_isValid_32 hf
  refine r_jn (fun k31 : Unit → Option Int32 => ∀ H1 L1 ls, Hp G o s H1 L1 → lv_has ls 2 [] → k31 () = some r → W p l e rmX2_isValid s m args below meth c H1 L1 0 0 (Qm G (some (.int r)) o rmX2_isValid below args s) (F0 m 31 ls [])) hf ?_ (fun k31 j31 hf => ?_)
  · intro  H1 L1 ls  P hl hf
    refine r_iconst C (v := 0) (by decide) dX2_isValid_31 ?_
    exact j32 ((0 : Int32)) _ _ _ P (lv_sub hl [] rfl) hf
  refine r_icmp_eq C dX2_isValid_5 hf (fun hf => ?_) (fun hf => ?_)
  · exact j31  _ _ _ P (lv_sub hl [] rfl) hf
  · refine r_aload_n C hl 1 rfl rfl dX2_isValid_8 ?_
    refine gf_5_4 C P ht1 wd_106 dX2_isValid_9 ?_
    refine r_aload_n C hl 1 rfl rfl dX2_isValid_12 ?_
    refine gf_5_6 C P ht1 wd_112 dX2_isValid_13 ?_
    refine r_isub C dX2_isValid_16 ?_
    refine r_aload_n C hl 0 rfl rfl dX2_isValid_17 ?_
    refine gf_1_6 C P ht0 wd_145 dX2_isValid_18 ?_
    refine r_bipush C (v := 6) (by decide) dX2_isValid_21 ?_
    refine r_iald C P (k := 3) (i := t0) (n := 7) (fun _ _ => rfl) ht0 dX2_isValid_23 hf (fun hf => ?_)
    refine r_icmp_gt C dX2_isValid_24 hf (fun hf => ?_) (fun hf => ?_)
    · exact j31  _ _ _ P (lv_sub hl [] rfl) hf
    · refine r_iconst C (v := 1) (by decide) dX2_isValid_27 ?_
      refine r_goto C dX2_isValid_28 ?_
      exact j32 ((1 : Int32)) _ _ _ P (lv_sub hl [] rfl) hf
theorem ctX2_isValid (l : Launch) (G : Gd) (o : OM) (t0 : Nat) (t1 : Nat) (ht0 : okb 1 t0 = true) (ht1 : okb 5 t1 = true) {r : Int32} (hf : F_X2_isValid o t0 t1 = some r) : Ct l yX2_isValid cX2_isValid 2 (some .boolean) rmX2_isValid G [.ref (rA G 1 t0), .ref (rA G 5 t1)] o (some (.int r)) o := ct_of (by decide +kernel) (Nat.le_of_ble_eq_true rfl) (fun p e s m below meth c ls C P hl => wX2_isValid C ht0 ht1 P hl hf)
theorem dX2_isOld_0 : Dc cX2_isOld 0 (.aload_n 0) 1 1 := ⟨by decide +kernel, rfl⟩
theorem dX2_isOld_1 : Dc cX2_isOld 1 (.getfield 43) 3 4 := ⟨by decide +kernel, rfl⟩
theorem dX2_isOld_4 : Dc cX2_isOld 4 (.iload_n 1) 1 5 := ⟨by decide +kernel, rfl⟩
theorem dX2_isOld_5 : Dc cX2_isOld 5 (.isub) 1 6 := ⟨by decide +kernel, rfl⟩
theorem dX2_isOld_6 : Dc cX2_isOld 6 (.aload_n 0) 1 7 := ⟨by decide +kernel, rfl⟩
theorem dX2_isOld_7 : Dc cX2_isOld 7 (.getfield 33) 3 10 := ⟨by decide +kernel, rfl⟩
theorem dX2_isOld_10 : Dc cX2_isOld 10 (.iconst 4) 1 11 := ⟨by decide +kernel, rfl⟩
theorem dX2_isOld_11 : Dc cX2_isOld 11 (.iaload) 1 12 := ⟨by decide +kernel, rfl⟩
theorem dX2_isOld_12 : Dj cX2_isOld 12 (.if_icmp .le 7) 3 15 (7) 19 := ⟨by decide +kernel, rfl, by decide⟩
theorem dX2_isOld_15 : Dc cX2_isOld 15 (.iconst 1) 1 16 := ⟨by decide +kernel, rfl⟩
theorem dX2_isOld_16 : Dj cX2_isOld 16 (.goto 4) 3 19 (4) 20 := ⟨by decide +kernel, rfl, by decide⟩
theorem dX2_isOld_19 : Dc cX2_isOld 19 (.iconst 0) 1 20 := ⟨by decide +kernel, rfl⟩
theorem dX2_isOld_20 : Dc cX2_isOld 20 (.ireturn) 1 21 := ⟨by decide +kernel, rfl⟩
def F_X2_isOld (o : OM) (t0 : Nat) (v1 : Int32) : Option Int32 := grd (inB ((4 : Int32)) 7) (bd (fun (s_1 : Int32) => grd (isZ s_1) (some s_1)) (fun k20 => if ((rd o 1 t0 0) - v1) ≤ (rd o 3 t0 ((4 : Int32)).toNatClampNeg) then (k20 ((0 : Int32))) else (k20 ((1 : Int32)))))
abbrev rmX2_isOld : Room := { frames := 0, cells := 0, slots := 0, locals := 0 }
set_option maxHeartbeats 4000000 in
set_option maxRecDepth 100000 in
theorem wX2_isOld {G : Gd} {p : Program} {l : Launch} {e : Env} {s : State} {m : MethodId} {args : Array Value} {below : List Frame} {meth : Method} {c : Code} {o : OM} {H : Heap} {L0 : List Loc} {ls : Array Slot} {r : Int32} {t0 : Nat} {v1 : Int32} (C : Cx G RX2 cX2_isOld 2 (some .boolean) p s m args meth c) (ht0 : okb 1 t0 = true) (P : Hp G o s H L0) (hl : lv_has ls 2 [(0, .ref (rA G 1 t0)), (1, .int v1)]) (hf : F_X2_isOld o t0 v1 = some r) : W p l e rmX2_isOld s m args below meth c H L0 0 0 (Qm G (some (.int r)) o rmX2_isOld below args s) (F0 m 0 ls []) := by
  unfold F_X2_isOld at hf
  refine r_aload_n C hl 0 rfl rfl dX2_isOld_0 ?_
  refine gf_1_0 C P ht0 wd_133 dX2_isOld_1 ?_
  refine r_iload_n C hl 1 rfl rfl dX2_isOld_4 ?_
  refine r_isub C dX2_isOld_5 ?_
  refine r_aload_n C hl 0 rfl rfl dX2_isOld_6 ?_
  refine gf_1_6 C P ht0 wd_145 dX2_isOld_7 ?_
  refine r_iconst C (v := 4) (by decide) dX2_isOld_10 ?_
  refine r_iald C P (k := 3) (i := t0) (n := 7) (fun _ _ => rfl) ht0 dX2_isOld_11 hf (fun hf => ?_)
  refine r_jn (fun k20 : Int32 → Option Int32 => ∀ (s_1 : Int32) H1 L1 ls, Hp G o s H1 L1 → lv_has ls 2 [] → k20 s_1 = some r → W p l e rmX2_isOld s m args below meth c H1 L1 0 0 (Qm G (some (.int r)) o rmX2_isOld below args s) (F0 m 20 ls [.int s_1])) hf ?_ (fun k20 j20 hf => ?_)
  · intro s_1 H1 L1 ls  P hl hf
    exact q_zret C P (rm := rmX2_isOld) ⟨rfl, rfl⟩ dX2_isOld_20 hf
  refine r_icmp_le C dX2_isOld_12 hf (fun hf => ?_) (fun hf => ?_)
  · refine r_iconst C (v := 0) (by decide) dX2_isOld_19 ?_
    exact j20 ((0 : Int32)) _ _ _ P (lv_sub hl [] rfl) hf
  · refine r_iconst C (v := 1) (by decide) dX2_isOld_15 ?_
    refine r_goto C dX2_isOld_16 ?_
    exact j20 ((1 : Int32)) _ _ _ P (lv_sub hl [] rfl) hf
theorem ctX2_isOld (l : Launch) (G : Gd) (o : OM) (t0 : Nat) (v1 : Int32) (ht0 : okb 1 t0 = true) {r : Int32} (hf : F_X2_isOld o t0 v1 = some r) : Ct l yX2_isOld cX2_isOld 2 (some .boolean) rmX2_isOld G [.ref (rA G 1 t0), .int v1] o (some (.int r)) o := ct_of (by decide +kernel) (Nat.le_of_ble_eq_true rfl) (fun p e s m below meth c ls C P hl => wX2_isOld C ht0 P hl hf)
theorem dX3_readingAt_0 : Dc cX3_readingAt 0 (.iload_n 1) 1 1 := ⟨by decide +kernel, rfl⟩
theorem dX3_readingAt_1 : Dc cX3_readingAt 1 (.sipush 1000) 3 4 := ⟨by decide +kernel, rfl⟩
theorem dX3_readingAt_4 : Dc cX3_readingAt 4 (.aload_n 0) 1 5 := ⟨by decide +kernel, rfl⟩
theorem dX3_readingAt_5 : Dc cX3_readingAt 5 (.getfield 25) 3 8 := ⟨by decide +kernel, rfl⟩
theorem dX3_readingAt_8 : Dc cX3_readingAt 8 (.iadd) 1 9 := ⟨by decide +kernel, rfl⟩
theorem dX3_readingAt_9 : Dc cX3_readingAt 9 (.imul) 1 10 := ⟨by decide +kernel, rfl⟩
theorem dX3_readingAt_10 : Dc cX3_readingAt 10 (.sipush 1000) 3 13 := ⟨by decide +kernel, rfl⟩
theorem dX3_readingAt_13 : Dc cX3_readingAt 13 (.invokestatic 47) 3 16 := ⟨by decide +kernel, rfl⟩
theorem dX3_readingAt_16 : Dc cX3_readingAt 16 (.aload_n 0) 1 17 := ⟨by decide +kernel, rfl⟩
theorem dX3_readingAt_17 : Dc cX3_readingAt 17 (.getfield 22) 3 20 := ⟨by decide +kernel, rfl⟩
theorem dX3_readingAt_20 : Dc cX3_readingAt 20 (.iadd) 1 21 := ⟨by decide +kernel, rfl⟩
theorem dX3_readingAt_21 : Dc cX3_readingAt 21 (.aload_n 0) 1 22 := ⟨by decide +kernel, rfl⟩
theorem dX3_readingAt_22 : Dc cX3_readingAt 22 (.getfield 34) 3 25 := ⟨by decide +kernel, rfl⟩
theorem dX3_readingAt_25 : Dc cX3_readingAt 25 (.iadd) 1 26 := ⟨by decide +kernel, rfl⟩
theorem dX3_readingAt_26 : Dc cX3_readingAt 26 (.ireturn) 1 27 := ⟨by decide +kernel, rfl⟩
def F_X3_readingAt (o : OM) (t0 : Nat) (v1 : Int32) : Option Int32 := bq (F_J9_floorDiv_7cf53 o (v1 * (((1000 : Int32)) + (rd o 5 t0 1))) ((1000 : Int32))) (fun r_1 => some ((r_1 + (rd o 5 t0 0)) + (rd o 5 t0 4)))
abbrev rmX3_readingAt : Room := { frames := 1, cells := 0, slots := 0, locals := 22 }
set_option maxHeartbeats 4000000 in
set_option maxRecDepth 100000 in
theorem wX3_readingAt {G : Gd} {p : Program} {l : Launch} {e : Env} {s : State} {m : MethodId} {args : Array Value} {below : List Frame} {meth : Method} {c : Code} {o : OM} {H : Heap} {L0 : List Loc} {ls : Array Slot} {r : Int32} {t0 : Nat} {v1 : Int32} (C : Cx G RX3 cX3_readingAt 2 (some .int) p s m args meth c) (ht0 : okb 5 t0 = true) (P : Hp G o s H L0) (hl : lv_has ls 2 [(0, .ref (rA G 5 t0)), (1, .int v1)]) (hf : F_X3_readingAt o t0 v1 = some r) : W p l e rmX3_readingAt s m args below meth c H L0 0 0 (Qm G (some (.int r)) o rmX3_readingAt below args s) (F0 m 0 ls []) := by
  unfold F_X3_readingAt at hf
  refine r_iload_n C hl 1 rfl rfl dX3_readingAt_0 ?_
  refine r_sipush C (v := 1000) (by decide) dX3_readingAt_1 ?_
  refine r_aload_n C hl 0 rfl rfl dX3_readingAt_4 ?_
  refine gf_5_1 C P ht0 wd_98 dX3_readingAt_5 ?_
  refine r_iadd2 C dX3_readingAt_8 ?_
  refine r_imul C dX3_readingAt_9 ?_
  refine r_sipush C (v := 1000) (by decide) dX3_readingAt_10 ?_
  refine r_qSi C P cf_X3_47 (rm := rmJ9_floorDiv_7cf53) [.int (v1 * (((1000 : Int32)) + (rd o 5 t0 1))), .int ((1000 : Int32))] [] hf (fun _ h => ctJ9_floorDiv_7cf53 l G o (v1 * (((1000 : Int32)) + (rd o 5 t0 1))) ((1000 : Int32)) h) ⟨rfl, rfl⟩ ⟨Nat.le_of_ble_eq_true rfl, Nat.le_of_ble_eq_true rfl⟩ ⟨Nat.le_of_ble_eq_true rfl, Nat.le_of_ble_eq_true rfl⟩ rfl rfl hl.1 (Nat.le_of_ble_eq_true rfl) dX3_readingAt_13 (fun r_1 H1 L1 P hf => ?_)
  refine r_aload_n C hl 0 rfl rfl dX3_readingAt_16 ?_
  refine gf_5_0 C P ht0 wd_97 dX3_readingAt_17 ?_
  refine r_iadd2 C dX3_readingAt_20 ?_
  refine r_aload_n C hl 0 rfl rfl dX3_readingAt_21 ?_
  refine gf_5_4 C P ht0 wd_105 dX3_readingAt_22 ?_
  refine r_iadd2 C dX3_readingAt_25 ?_
  exact q_iret C P (rm := rmX3_readingAt) ⟨rfl, rfl⟩ dX3_readingAt_26 hf
theorem ctX3_readingAt (l : Launch) (G : Gd) (o : OM) (t0 : Nat) (v1 : Int32) (ht0 : okb 5 t0 = true) {r : Int32} (hf : F_X3_readingAt o t0 v1 = some r) : Ct l yX3_readingAt cX3_readingAt 2 (some .int) rmX3_readingAt G [.ref (rA G 5 t0), .int v1] o (some (.int r)) o := ct_of (by decide +kernel) (Nat.le_of_ble_eq_true rfl) (fun p e s m below meth c ls C P hl => wX3_readingAt C ht0 P hl hf)
theorem dJ9_abs_0f7a4_0 : Dc cJ9_abs_0f7a4 0 (.iload_n 0) 1 1 := ⟨by decide +kernel, rfl⟩
theorem dJ9_abs_0f7a4_1 : Dj cJ9_abs_0f7a4 1 (.ifCond .ge 8) 3 4 (8) 9 := ⟨by decide +kernel, rfl, by decide⟩
theorem dJ9_abs_0f7a4_4 : Dc cJ9_abs_0f7a4 4 (.iload_n 0) 1 5 := ⟨by decide +kernel, rfl⟩
theorem dJ9_abs_0f7a4_5 : Dc cJ9_abs_0f7a4 5 (.ineg) 1 6 := ⟨by decide +kernel, rfl⟩
theorem dJ9_abs_0f7a4_6 : Dj cJ9_abs_0f7a4 6 (.goto 4) 3 9 (4) 10 := ⟨by decide +kernel, rfl, by decide⟩
theorem dJ9_abs_0f7a4_9 : Dc cJ9_abs_0f7a4 9 (.iload_n 0) 1 10 := ⟨by decide +kernel, rfl⟩
theorem dJ9_abs_0f7a4_10 : Dc cJ9_abs_0f7a4 10 (.ireturn) 1 11 := ⟨by decide +kernel, rfl⟩
def F_J9_abs_0f7a4 (o : OM) (v0 : Int32) : Option Int32 := bd (fun (s_1 : Int32) => some s_1) (fun k10 => if 0 ≤ v0 then (k10 v0) else (k10 (-v0)))
abbrev rmJ9_abs_0f7a4 : Room := { frames := 0, cells := 0, slots := 0, locals := 0 }
set_option maxHeartbeats 4000000 in
set_option maxRecDepth 100000 in
theorem wJ9_abs_0f7a4 {G : Gd} {p : Program} {l : Launch} {e : Env} {s : State} {m : MethodId} {args : Array Value} {below : List Frame} {meth : Method} {c : Code} {o : OM} {H : Heap} {L0 : List Loc} {ls : Array Slot} {r : Int32} {v0 : Int32} (C : Cx G RJ9 cJ9_abs_0f7a4 1 (some .int) p s m args meth c)  (P : Hp G o s H L0) (hl : lv_has ls 1 [(0, .int v0)]) (hf : F_J9_abs_0f7a4 o v0 = some r) : W p l e rmJ9_abs_0f7a4 s m args below meth c H L0 0 0 (Qm G (some (.int r)) o rmJ9_abs_0f7a4 below args s) (F0 m 0 ls []) := by
  unfold F_J9_abs_0f7a4 at hf
  refine r_iload_n C hl 0 rfl rfl dJ9_abs_0f7a4_0 ?_
  refine r_jn (fun k10 : Int32 → Option Int32 => ∀ (s_1 : Int32) H1 L1 ls, Hp G o s H1 L1 → lv_has ls 1 [] → k10 s_1 = some r → W p l e rmJ9_abs_0f7a4 s m args below meth c H1 L1 0 0 (Qm G (some (.int r)) o rmJ9_abs_0f7a4 below args s) (F0 m 10 ls [.int s_1])) hf ?_ (fun k10 j10 hf => ?_)
  · intro s_1 H1 L1 ls  P hl hf
    exact q_iret C P (rm := rmJ9_abs_0f7a4) ⟨rfl, rfl⟩ dJ9_abs_0f7a4_10 hf
  refine r_if_ge C dJ9_abs_0f7a4_1 hf (fun hf => ?_) (fun hf => ?_)
  · refine r_iload_n C hl 0 rfl rfl dJ9_abs_0f7a4_9 ?_
    exact j10 v0 _ _ _ P (lv_sub hl [] rfl) hf
  · refine r_iload_n C hl 0 rfl rfl dJ9_abs_0f7a4_4 ?_
    refine r_ineg C dJ9_abs_0f7a4_5 ?_
    refine r_goto C dJ9_abs_0f7a4_6 ?_
    exact j10 (-v0) _ _ _ P (lv_sub hl [] rfl) hf
theorem ctJ9_abs_0f7a4 (l : Launch) (G : Gd) (o : OM) (v0 : Int32)  {r : Int32} (hf : F_J9_abs_0f7a4 o v0 = some r) : Ct l yJ9_abs_0f7a4 cJ9_abs_0f7a4 1 (some .int) rmJ9_abs_0f7a4 G [.int v0] o (some (.int r)) o := ct_of (by decide +kernel) (Nat.le_of_ble_eq_true rfl) (fun p e s m below meth c ls C P hl => wJ9_abs_0f7a4 C  P hl hf)
theorem cf_X3_60 : CallF false RX3 60 yX3_readingAt cX3_readingAt 2 (some .int) 1 := ⟨wd_484, (by rw [if_neg (by decide)]; exact ⟨wd_485, wd_486⟩), wd_12, wd_487, by decide, by decide +kernel⟩
theorem cf_X3_75 : CallF false RX3 75 yX1_correctByTree cX1_correctByTree 4 (some .int) 1 := ⟨wd_537, (by rw [if_neg (by decide)]; exact ⟨wd_538, wd_539⟩), wd_13, wd_540, by decide, by decide +kernel⟩
theorem cf_X3_78 : CallF true RX3 78 yJ9_abs_0f7a4 cJ9_abs_0f7a4 1 (some .int) 1 := ⟨wd_554, (by rw [if_pos rfl]; exact wd_555), wd_23, wd_556, by decide, by decide +kernel⟩
theorem dX3_overlapWith_0 : Dc cX3_overlapWith 0 (.aload_n 0) 1 1 := ⟨by decide +kernel, rfl⟩
theorem dX3_overlapWith_1 : Dc cX3_overlapWith 1 (.getfield 18) 3 4 := ⟨by decide +kernel, rfl⟩
theorem dX3_overlapWith_4 : Dc cX3_overlapWith 4 (.getfield 40) 3 7 := ⟨by decide +kernel, rfl⟩
theorem dX3_overlapWith_7 : Dc cX3_overlapWith 7 (.iconst 2) 1 8 := ⟨by decide +kernel, rfl⟩
theorem dX3_overlapWith_8 : Dj cX3_overlapWith 8 (.if_icmp .lt 14) 3 11 (14) 22 := ⟨by decide +kernel, rfl, by decide⟩
theorem dX3_overlapWith_11 : Dc cX3_overlapWith 11 (.aload_n 1) 1 12 := ⟨by decide +kernel, rfl⟩
theorem dX3_overlapWith_12 : Dc cX3_overlapWith 12 (.getfield 18) 3 15 := ⟨by decide +kernel, rfl⟩
theorem dX3_overlapWith_15 : Dc cX3_overlapWith 15 (.getfield 40) 3 18 := ⟨by decide +kernel, rfl⟩
theorem dX3_overlapWith_18 : Dc cX3_overlapWith 18 (.iconst 2) 1 19 := ⟨by decide +kernel, rfl⟩
theorem dX3_overlapWith_19 : Dj cX3_overlapWith 19 (.if_icmp .ge 5) 3 22 (5) 24 := ⟨by decide +kernel, rfl, by decide⟩
theorem dX3_overlapWith_22 : Dc cX3_overlapWith 22 (.iconst (-1)) 1 23 := ⟨by decide +kernel, rfl⟩
theorem dX3_overlapWith_23 : Dc cX3_overlapWith 23 (.ireturn) 1 24 := ⟨by decide +kernel, rfl⟩
theorem dX3_overlapWith_24 : Dc cX3_overlapWith 24 (.aload_n 0) 1 25 := ⟨by decide +kernel, rfl⟩
theorem dX3_overlapWith_25 : Dc cX3_overlapWith 25 (.getfield 18) 3 28 := ⟨by decide +kernel, rfl⟩
theorem dX3_overlapWith_28 : Dc cX3_overlapWith 28 (.aload_n 0) 1 29 := ⟨by decide +kernel, rfl⟩
theorem dX3_overlapWith_29 : Dc cX3_overlapWith 29 (.iload_n 2) 1 30 := ⟨by decide +kernel, rfl⟩
theorem dX3_overlapWith_30 : Dc cX3_overlapWith 30 (.invokevirtual 60) 3 33 := ⟨by decide +kernel, rfl⟩
theorem dX3_overlapWith_33 : Dc cX3_overlapWith 33 (.invokevirtual 75) 3 36 := ⟨by decide +kernel, rfl⟩
theorem dX3_overlapWith_36 : Dc cX3_overlapWith 36 (.istore_n 3) 1 37 := ⟨by decide +kernel, rfl⟩
theorem dX3_overlapWith_37 : Dc cX3_overlapWith 37 (.aload_n 1) 1 38 := ⟨by decide +kernel, rfl⟩
theorem dX3_overlapWith_38 : Dc cX3_overlapWith 38 (.getfield 18) 3 41 := ⟨by decide +kernel, rfl⟩
theorem dX3_overlapWith_41 : Dc cX3_overlapWith 41 (.aload_n 1) 1 42 := ⟨by decide +kernel, rfl⟩
theorem dX3_overlapWith_42 : Dc cX3_overlapWith 42 (.iload_n 2) 1 43 := ⟨by decide +kernel, rfl⟩
theorem dX3_overlapWith_43 : Dc cX3_overlapWith 43 (.invokevirtual 60) 3 46 := ⟨by decide +kernel, rfl⟩
theorem dX3_overlapWith_46 : Dc cX3_overlapWith 46 (.invokevirtual 75) 3 49 := ⟨by decide +kernel, rfl⟩
theorem dX3_overlapWith_49 : Dc cX3_overlapWith 49 (.istore 4) 2 51 := ⟨by decide +kernel, rfl⟩
theorem dX3_overlapWith_51 : Dc cX3_overlapWith 51 (.iload_n 3) 1 52 := ⟨by decide +kernel, rfl⟩
theorem dX3_overlapWith_52 : Dc cX3_overlapWith 52 (.iload 4) 2 54 := ⟨by decide +kernel, rfl⟩
theorem dX3_overlapWith_54 : Dc cX3_overlapWith 54 (.isub) 1 55 := ⟨by decide +kernel, rfl⟩
theorem dX3_overlapWith_55 : Dc cX3_overlapWith 55 (.invokestatic 78) 3 58 := ⟨by decide +kernel, rfl⟩
theorem dX3_overlapWith_58 : Dc cX3_overlapWith 58 (.ireturn) 1 59 := ⟨by decide +kernel, rfl⟩
def F_X3_overlapWith (o : OM) (t0 : Nat) (t1 : Nat) (v2 : Int32) : Option Int32 := bd (fun (_ : Unit) => some ((-1 : Int32))) (fun k22 => if (rd o 6 t0 0) < ((2 : Int32)) then (k22 ()) else (if ((2 : Int32)) ≤ (rd o 6 t1 0) then (bq (F_X3_readingAt o t0 v2) (fun r_1 => bq (F_X1_correctByTree o t0 r_1) (fun r_2 => bq (F_X3_readingAt o t1 v2) (fun r_3 => bq (F_X1_correctByTree o t1 r_3) (fun r_4 => bq (F_J9_abs_0f7a4 o (r_2 - r_4)) (fun r_5 => some r_5)))))) else (k22 ())))
abbrev rmX3_overlapWith : Room := { frames := 3, cells := 0, slots := 0, locals := 70 }
set_option maxHeartbeats 4000000 in
set_option maxRecDepth 100000 in
theorem wX3_overlapWith {G : Gd} {p : Program} {l : Launch} {e : Env} {s : State} {m : MethodId} {args : Array Value} {below : List Frame} {meth : Method} {c : Code} {o : OM} {H : Heap} {L0 : List Loc} {ls : Array Slot} {r : Int32} {t0 : Nat} {t1 : Nat} {v2 : Int32} (C : Cx G RX3 cX3_overlapWith 5 (some .int) p s m args meth c) (ht0 : okb 5 t0 = true) (ht1 : okb 5 t1 = true) (P : Hp G o s H L0) (hl : lv_has ls 5 [(0, .ref (rA G 5 t0)), (1, .ref (rA G 5 t1)), (2, .int v2)]) (hf : F_X3_overlapWith o t0 t1 v2 = some r) : W p l e rmX3_overlapWith s m args below meth c H L0 0 0 (Qm G (some (.int r)) o rmX3_overlapWith below args s) (F0 m 0 ls []) := by
  unfold F_X3_overlapWith at hf
  refine r_aload_n C hl 0 rfl rfl dX3_overlapWith_0 ?_
  refine gf_5_7 C P ht0 wd_113 dX3_overlapWith_1 ?_
  refine gf_6_0 C P ht0 wd_63 dX3_overlapWith_4 ?_
  refine r_iconst C (v := 2) (by decide) dX3_overlapWith_7 ?_
  refine r_jn (fun k22 : Unit → Option Int32 => ∀ H1 L1 ls, Hp G o s H1 L1 → lv_has ls 5 [] → k22 () = some r → W p l e rmX3_overlapWith s m args below meth c H1 L1 0 0 (Qm G (some (.int r)) o rmX3_overlapWith below args s) (F0 m 22 ls [])) hf ?_ (fun k22 j22 hf => ?_)
  · intro  H1 L1 ls  P hl hf
    refine r_iconst C (v := -1) (by decide) dX3_overlapWith_22 ?_
    exact q_iret C P (rm := rmX3_overlapWith) ⟨rfl, rfl⟩ dX3_overlapWith_23 hf
  refine r_icmp_lt C dX3_overlapWith_8 hf (fun hf => ?_) (fun hf => ?_)
  · exact j22  _ _ _ P (lv_sub hl [] rfl) hf
  · refine r_aload_n C hl 1 rfl rfl dX3_overlapWith_11 ?_
    refine gf_5_7 C P ht1 wd_113 dX3_overlapWith_12 ?_
    refine gf_6_0 C P ht1 wd_63 dX3_overlapWith_15 ?_
    refine r_iconst C (v := 2) (by decide) dX3_overlapWith_18 ?_
    refine r_icmp_ge C dX3_overlapWith_19 hf (fun hf => ?_) (fun hf => ?_)
    · refine r_aload_n C hl 0 rfl rfl dX3_overlapWith_24 ?_
      refine gf_5_7 C P ht0 wd_113 dX3_overlapWith_25 ?_
      refine r_aload_n C hl 0 rfl rfl dX3_overlapWith_28 ?_
      refine r_iload_n C hl 2 rfl rfl dX3_overlapWith_29 ?_
      refine r_qVi C P cf_X3_60 (rm := rmX3_readingAt) 5 t0 (fun _ _ => ⟨_, rfl⟩) rfl rfl ht0 [.int v2] [.ref (rA G 6 t0)] hf (fun _ h => ctX3_readingAt l G o t0 v2 ht0 h) ⟨rfl, rfl⟩ ⟨Nat.le_of_ble_eq_true rfl, Nat.le_of_ble_eq_true rfl⟩ ⟨Nat.le_of_ble_eq_true rfl, Nat.le_of_ble_eq_true rfl⟩ rfl rfl hl.1 (Nat.le_of_ble_eq_true rfl) dX3_overlapWith_30 (fun r_1 H1 L1 P hf => ?_)
      refine r_qVi C P cf_X3_75 (rm := rmX1_correctByTree) 6 t0 (fun _ _ => ⟨_, rfl⟩) rfl rfl ht0 [.int r_1] [] hf (fun _ h => ctX1_correctByTree l G o t0 r_1 ht0 h) ⟨rfl, rfl⟩ ⟨Nat.le_of_ble_eq_true rfl, Nat.le_of_ble_eq_true rfl⟩ ⟨Nat.le_of_ble_eq_true rfl, Nat.le_of_ble_eq_true rfl⟩ rfl rfl hl.1 (Nat.le_of_ble_eq_true rfl) dX3_overlapWith_33 (fun r_2 H1 L1 P hf => ?_)
      refine r_istore_n C [(3, .int r_2), (0, .ref (rA G 5 t0)), (1, .ref (rA G 5 t1)), (2, .int v2)] hl (by decide) rfl rfl dX3_overlapWith_36 (fun ls hl => ?_)
      refine r_aload_n C hl 2 rfl rfl dX3_overlapWith_37 ?_
      refine gf_5_7 C P ht1 wd_113 dX3_overlapWith_38 ?_
      refine r_aload_n C hl 2 rfl rfl dX3_overlapWith_41 ?_
      refine r_iload_n C hl 3 rfl rfl dX3_overlapWith_42 ?_
      refine r_qVi C P cf_X3_60 (rm := rmX3_readingAt) 5 t1 (fun _ _ => ⟨_, rfl⟩) rfl rfl ht1 [.int v2] [.ref (rA G 6 t1)] hf (fun _ h => ctX3_readingAt l G o t1 v2 ht1 h) ⟨rfl, rfl⟩ ⟨Nat.le_of_ble_eq_true rfl, Nat.le_of_ble_eq_true rfl⟩ ⟨Nat.le_of_ble_eq_true rfl, Nat.le_of_ble_eq_true rfl⟩ rfl rfl hl.1 (Nat.le_of_ble_eq_true rfl) dX3_overlapWith_43 (fun r_3 H1 L1 P hf => ?_)
      refine r_qVi C P cf_X3_75 (rm := rmX1_correctByTree) 6 t1 (fun _ _ => ⟨_, rfl⟩) rfl rfl ht1 [.int r_3] [] hf (fun _ h => ctX1_correctByTree l G o t1 r_3 ht1 h) ⟨rfl, rfl⟩ ⟨Nat.le_of_ble_eq_true rfl, Nat.le_of_ble_eq_true rfl⟩ ⟨Nat.le_of_ble_eq_true rfl, Nat.le_of_ble_eq_true rfl⟩ rfl rfl hl.1 (Nat.le_of_ble_eq_true rfl) dX3_overlapWith_46 (fun r_4 H1 L1 P hf => ?_)
      refine r_istore C [(4, .int r_4), (3, .int r_2), (0, .ref (rA G 5 t0)), (1, .ref (rA G 5 t1)), (2, .int v2)] hl (by decide) rfl dX3_overlapWith_49 (fun ls hl => ?_)
      refine r_iload_n C hl 1 rfl rfl dX3_overlapWith_51 ?_
      refine r_iload C hl 0 rfl dX3_overlapWith_52 ?_
      refine r_isub C dX3_overlapWith_54 ?_
      refine r_qSi C P cf_X3_78 (rm := rmJ9_abs_0f7a4) [.int (r_2 - r_4)] [] hf (fun _ h => ctJ9_abs_0f7a4 l G o (r_2 - r_4) h) ⟨rfl, rfl⟩ ⟨Nat.le_of_ble_eq_true rfl, Nat.le_of_ble_eq_true rfl⟩ ⟨Nat.le_of_ble_eq_true rfl, Nat.le_of_ble_eq_true rfl⟩ rfl rfl hl.1 (Nat.le_of_ble_eq_true rfl) dX3_overlapWith_55 (fun r_5 H1 L1 P hf => ?_)
      exact q_iret C P (rm := rmX3_overlapWith) ⟨rfl, rfl⟩ dX3_overlapWith_58 hf
    · exact j22  _ _ _ P (lv_sub hl [] rfl) hf
theorem ctX3_overlapWith (l : Launch) (G : Gd) (o : OM) (t0 : Nat) (t1 : Nat) (v2 : Int32) (ht0 : okb 5 t0 = true) (ht1 : okb 5 t1 = true) {r : Int32} (hf : F_X3_overlapWith o t0 t1 v2 = some r) : Ct l yX3_overlapWith cX3_overlapWith 5 (some .int) rmX3_overlapWith G [.ref (rA G 5 t0), .ref (rA G 5 t1), .int v2] o (some (.int r)) o := ct_of (by decide +kernel) (Nat.le_of_ble_eq_true rfl) (fun p e s m below meth c ls C P hl => wX3_overlapWith C ht0 ht1 P hl hf)
theorem cf_X2_98 : CallF false RX2 98 yX1_indexOf cX1_indexOf 3 (some .int) 1 := ⟨wd_528, (by rw [if_neg (by decide)]; exact ⟨wd_481, wd_482⟩), wd_13, wd_483, by decide, by decide +kernel⟩
theorem cf_X2_106 : CallF false RX2 106 yX2_isOld cX2_isOld 2 (some .boolean) 1 := ⟨wd_529, (by rw [if_neg (by decide)]; exact ⟨wd_531, wd_5⟩), wd_11, wd_532, by decide, by decide +kernel⟩
theorem cf_X2_109 : CallF false RX2 109 yX2_isValid cX2_isValid 2 (some .boolean) 1 := ⟨wd_346, (by rw [if_neg (by decide)]; exact ⟨wd_347, wd_348⟩), wd_11, wd_349, by decide, by decide +kernel⟩
theorem cf_X2_113 : CallF false RX2 113 yX3_overlapWith cX3_overlapWith 5 (some .int) 2 := ⟨wd_533, (by rw [if_neg (by decide)]; exact ⟨wd_534, wd_535⟩), wd_12, wd_536, by decide, by decide +kernel⟩
theorem dX2_reasonForNoPaper_0 : Dc cX2_reasonForNoPaper 0 (.aload_n 1) 1 1 := ⟨by decide +kernel, rfl⟩
theorem dX2_reasonForNoPaper_1 : Dc cX2_reasonForNoPaper 1 (.getfield 94) 3 4 := ⟨by decide +kernel, rfl⟩
theorem dX2_reasonForNoPaper_4 : Dc cX2_reasonForNoPaper 4 (.iconst 0) 1 5 := ⟨by decide +kernel, rfl⟩
theorem dX2_reasonForNoPaper_5 : Dc cX2_reasonForNoPaper 5 (.invokevirtual 98) 3 8 := ⟨by decide +kernel, rfl⟩
theorem dX2_reasonForNoPaper_8 : Dc cX2_reasonForNoPaper 8 (.istore_n 2) 1 9 := ⟨by decide +kernel, rfl⟩
theorem dX2_reasonForNoPaper_9 : Dc cX2_reasonForNoPaper 9 (.aload_n 1) 1 10 := ⟨by decide +kernel, rfl⟩
theorem dX2_reasonForNoPaper_10 : Dc cX2_reasonForNoPaper 10 (.getfield 94) 3 13 := ⟨by decide +kernel, rfl⟩
theorem dX2_reasonForNoPaper_13 : Dc cX2_reasonForNoPaper 13 (.sipush 1000) 3 16 := ⟨by decide +kernel, rfl⟩
theorem dX2_reasonForNoPaper_16 : Dc cX2_reasonForNoPaper 16 (.invokevirtual 98) 3 19 := ⟨by decide +kernel, rfl⟩
theorem dX2_reasonForNoPaper_19 : Dc cX2_reasonForNoPaper 19 (.istore_n 3) 1 20 := ⟨by decide +kernel, rfl⟩
theorem dX2_reasonForNoPaper_20 : Dc cX2_reasonForNoPaper 20 (.iload_n 2) 1 21 := ⟨by decide +kernel, rfl⟩
theorem dX2_reasonForNoPaper_21 : Dc cX2_reasonForNoPaper 21 (.iconst (-1)) 1 22 := ⟨by decide +kernel, rfl⟩
theorem dX2_reasonForNoPaper_22 : Dj cX2_reasonForNoPaper 22 (.if_icmp .eq 8) 3 25 (8) 30 := ⟨by decide +kernel, rfl, by decide⟩
theorem dX2_reasonForNoPaper_25 : Dc cX2_reasonForNoPaper 25 (.iload_n 3) 1 26 := ⟨by decide +kernel, rfl⟩
theorem dX2_reasonForNoPaper_26 : Dc cX2_reasonForNoPaper 26 (.iconst (-1)) 1 27 := ⟨by decide +kernel, rfl⟩
theorem dX2_reasonForNoPaper_27 : Dj cX2_reasonForNoPaper 27 (.if_icmp .ne 5) 3 30 (5) 32 := ⟨by decide +kernel, rfl, by decide⟩
theorem dX2_reasonForNoPaper_30 : Dc cX2_reasonForNoPaper 30 (.iconst 3) 1 31 := ⟨by decide +kernel, rfl⟩
theorem dX2_reasonForNoPaper_31 : Dc cX2_reasonForNoPaper 31 (.ireturn) 1 32 := ⟨by decide +kernel, rfl⟩
theorem dX2_reasonForNoPaper_32 : Dc cX2_reasonForNoPaper 32 (.aload_n 0) 1 33 := ⟨by decide +kernel, rfl⟩
theorem dX2_reasonForNoPaper_33 : Dc cX2_reasonForNoPaper 33 (.aload_n 1) 1 34 := ⟨by decide +kernel, rfl⟩
theorem dX2_reasonForNoPaper_34 : Dc cX2_reasonForNoPaper 34 (.getfield 94) 3 37 := ⟨by decide +kernel, rfl⟩
theorem dX2_reasonForNoPaper_37 : Dc cX2_reasonForNoPaper 37 (.getfield 104) 3 40 := ⟨by decide +kernel, rfl⟩
theorem dX2_reasonForNoPaper_40 : Dc cX2_reasonForNoPaper 40 (.iload_n 2) 1 41 := ⟨by decide +kernel, rfl⟩
theorem dX2_reasonForNoPaper_41 : Dc cX2_reasonForNoPaper 41 (.iaload) 1 42 := ⟨by decide +kernel, rfl⟩
theorem dX2_reasonForNoPaper_42 : Dc cX2_reasonForNoPaper 42 (.invokevirtual 106) 3 45 := ⟨by decide +kernel, rfl⟩
theorem dX2_reasonForNoPaper_45 : Dj cX2_reasonForNoPaper 45 (.ifCond .ne 19) 3 48 (19) 64 := ⟨by decide +kernel, rfl, by decide⟩
theorem dX2_reasonForNoPaper_48 : Dc cX2_reasonForNoPaper 48 (.aload_n 0) 1 49 := ⟨by decide +kernel, rfl⟩
theorem dX2_reasonForNoPaper_49 : Dc cX2_reasonForNoPaper 49 (.aload_n 1) 1 50 := ⟨by decide +kernel, rfl⟩
theorem dX2_reasonForNoPaper_50 : Dc cX2_reasonForNoPaper 50 (.getfield 94) 3 53 := ⟨by decide +kernel, rfl⟩
theorem dX2_reasonForNoPaper_53 : Dc cX2_reasonForNoPaper 53 (.getfield 104) 3 56 := ⟨by decide +kernel, rfl⟩
theorem dX2_reasonForNoPaper_56 : Dc cX2_reasonForNoPaper 56 (.iload_n 3) 1 57 := ⟨by decide +kernel, rfl⟩
theorem dX2_reasonForNoPaper_57 : Dc cX2_reasonForNoPaper 57 (.iaload) 1 58 := ⟨by decide +kernel, rfl⟩
theorem dX2_reasonForNoPaper_58 : Dc cX2_reasonForNoPaper 58 (.invokevirtual 106) 3 61 := ⟨by decide +kernel, rfl⟩
theorem dX2_reasonForNoPaper_61 : Dj cX2_reasonForNoPaper 61 (.ifCond .eq 5) 3 64 (5) 66 := ⟨by decide +kernel, rfl, by decide⟩
theorem dX2_reasonForNoPaper_64 : Dc cX2_reasonForNoPaper 64 (.iconst 4) 1 65 := ⟨by decide +kernel, rfl⟩
theorem dX2_reasonForNoPaper_65 : Dc cX2_reasonForNoPaper 65 (.ireturn) 1 66 := ⟨by decide +kernel, rfl⟩
theorem dX2_reasonForNoPaper_66 : Dc cX2_reasonForNoPaper 66 (.aload_n 0) 1 67 := ⟨by decide +kernel, rfl⟩
theorem dX2_reasonForNoPaper_67 : Dc cX2_reasonForNoPaper 67 (.aload_n 1) 1 68 := ⟨by decide +kernel, rfl⟩
theorem dX2_reasonForNoPaper_68 : Dc cX2_reasonForNoPaper 68 (.invokevirtual 109) 3 71 := ⟨by decide +kernel, rfl⟩
theorem dX2_reasonForNoPaper_71 : Dj cX2_reasonForNoPaper 71 (.ifCond .eq 5) 3 74 (5) 76 := ⟨by decide +kernel, rfl, by decide⟩
theorem dX2_reasonForNoPaper_74 : Dc cX2_reasonForNoPaper 74 (.iconst 5) 1 75 := ⟨by decide +kernel, rfl⟩
theorem dX2_reasonForNoPaper_75 : Dc cX2_reasonForNoPaper 75 (.ireturn) 1 76 := ⟨by decide +kernel, rfl⟩
theorem dX2_reasonForNoPaper_76 : Dc cX2_reasonForNoPaper 76 (.iconst 0) 1 77 := ⟨by decide +kernel, rfl⟩
theorem dX2_reasonForNoPaper_77 : Dc cX2_reasonForNoPaper 77 (.istore 4) 2 79 := ⟨by decide +kernel, rfl⟩
theorem dX2_reasonForNoPaper_79 : Dc cX2_reasonForNoPaper 79 (.iload 4) 2 81 := ⟨by decide +kernel, rfl⟩
theorem dX2_reasonForNoPaper_81 : Dc cX2_reasonForNoPaper 81 (.aload_n 0) 1 82 := ⟨by decide +kernel, rfl⟩
theorem dX2_reasonForNoPaper_82 : Dc cX2_reasonForNoPaper 82 (.getfield 49) 3 85 := ⟨by decide +kernel, rfl⟩
theorem dX2_reasonForNoPaper_85 : Dj cX2_reasonForNoPaper 85 (.if_icmp .ge 60) 3 88 (60) 145 := ⟨by decide +kernel, rfl, by decide⟩
theorem dX2_reasonForNoPaper_88 : Dc cX2_reasonForNoPaper 88 (.aload_n 0) 1 89 := ⟨by decide +kernel, rfl⟩
theorem dX2_reasonForNoPaper_89 : Dc cX2_reasonForNoPaper 89 (.getfield 38) 3 92 := ⟨by decide +kernel, rfl⟩
theorem dX2_reasonForNoPaper_92 : Dc cX2_reasonForNoPaper 92 (.iload 4) 2 94 := ⟨by decide +kernel, rfl⟩
theorem dX2_reasonForNoPaper_94 : Dc cX2_reasonForNoPaper 94 (.aaload) 1 95 := ⟨by decide +kernel, rfl⟩
theorem dX2_reasonForNoPaper_95 : Dc cX2_reasonForNoPaper 95 (.astore 5) 2 97 := ⟨by decide +kernel, rfl⟩
theorem dX2_reasonForNoPaper_97 : Dc cX2_reasonForNoPaper 97 (.aload 5) 2 99 := ⟨by decide +kernel, rfl⟩
theorem dX2_reasonForNoPaper_99 : Dc cX2_reasonForNoPaper 99 (.getfield 82) 3 102 := ⟨by decide +kernel, rfl⟩
theorem dX2_reasonForNoPaper_102 : Dc cX2_reasonForNoPaper 102 (.aload_n 1) 1 103 := ⟨by decide +kernel, rfl⟩
theorem dX2_reasonForNoPaper_103 : Dc cX2_reasonForNoPaper 103 (.getfield 82) 3 106 := ⟨by decide +kernel, rfl⟩
theorem dX2_reasonForNoPaper_106 : Dj cX2_reasonForNoPaper 106 (.if_icmp .ne 33) 3 109 (33) 139 := ⟨by decide +kernel, rfl, by decide⟩
theorem dX2_reasonForNoPaper_109 : Dc cX2_reasonForNoPaper 109 (.aload_n 0) 1 110 := ⟨by decide +kernel, rfl⟩
theorem dX2_reasonForNoPaper_110 : Dc cX2_reasonForNoPaper 110 (.aload 5) 2 112 := ⟨by decide +kernel, rfl⟩
theorem dX2_reasonForNoPaper_112 : Dc cX2_reasonForNoPaper 112 (.invokevirtual 109) 3 115 := ⟨by decide +kernel, rfl⟩
theorem dX2_reasonForNoPaper_115 : Dj cX2_reasonForNoPaper 115 (.ifCond .eq 24) 3 118 (24) 139 := ⟨by decide +kernel, rfl, by decide⟩
theorem dX2_reasonForNoPaper_118 : Dc cX2_reasonForNoPaper 118 (.aload_n 1) 1 119 := ⟨by decide +kernel, rfl⟩
theorem dX2_reasonForNoPaper_119 : Dc cX2_reasonForNoPaper 119 (.aload 5) 2 121 := ⟨by decide +kernel, rfl⟩
theorem dX2_reasonForNoPaper_121 : Dc cX2_reasonForNoPaper 121 (.sipush 500) 3 124 := ⟨by decide +kernel, rfl⟩
theorem dX2_reasonForNoPaper_124 : Dc cX2_reasonForNoPaper 124 (.invokevirtual 113) 3 127 := ⟨by decide +kernel, rfl⟩
theorem dX2_reasonForNoPaper_127 : Dc cX2_reasonForNoPaper 127 (.aload_n 0) 1 128 := ⟨by decide +kernel, rfl⟩
theorem dX2_reasonForNoPaper_128 : Dc cX2_reasonForNoPaper 128 (.getfield 33) 3 131 := ⟨by decide +kernel, rfl⟩
theorem dX2_reasonForNoPaper_131 : Dc cX2_reasonForNoPaper 131 (.iconst 5) 1 132 := ⟨by decide +kernel, rfl⟩
theorem dX2_reasonForNoPaper_132 : Dc cX2_reasonForNoPaper 132 (.iaload) 1 133 := ⟨by decide +kernel, rfl⟩
theorem dX2_reasonForNoPaper_133 : Dj cX2_reasonForNoPaper 133 (.if_icmp .le 6) 3 136 (6) 139 := ⟨by decide +kernel, rfl, by decide⟩
theorem dX2_reasonForNoPaper_136 : Dc cX2_reasonForNoPaper 136 (.bipush 6) 2 138 := ⟨by decide +kernel, rfl⟩
theorem dX2_reasonForNoPaper_138 : Dc cX2_reasonForNoPaper 138 (.ireturn) 1 139 := ⟨by decide +kernel, rfl⟩
theorem dX2_reasonForNoPaper_139 : Dc cX2_reasonForNoPaper 139 (.iinc 4 1) 3 142 := ⟨by decide +kernel, rfl⟩
theorem dX2_reasonForNoPaper_142 : Dj cX2_reasonForNoPaper 142 (.goto (-63)) 3 145 (-63) 79 := ⟨by decide +kernel, rfl, by decide⟩
theorem dX2_reasonForNoPaper_145 : Dc cX2_reasonForNoPaper 145 (.iconst 0) 1 146 := ⟨by decide +kernel, rfl⟩
theorem dX2_reasonForNoPaper_146 : Dc cX2_reasonForNoPaper 146 (.ireturn) 1 147 := ⟨by decide +kernel, rfl⟩
def LX2_reasonForNoPaper_79 (k136 : Unit → Option Int32) (k145 : Unit → Option Int32) (o : OM) (t0 : Nat) (t1 : Nat) : Nat → Int32 → Option Int32
  | 0 => fun _ => none
  | n + 1 => fun v4_6 => if (rd o 1 t0 2) ≤ v4_6 then (k145 ()) else (grd (inB v4_6 6) (bd (tid t0 (rd o 4 t0 v4_6.toNatClampNeg)) (fun t_7 : Nat => bd (fun (_ : Unit) => bd (v4_6 + (1 : Int32)) (fun v4_8 : Int32 => (LX2_reasonForNoPaper_79 k136 k145 o t0 t1 n) v4_8)) (fun k139 => if (rd o 5 t_7 2) = (rd o 5 t1 2) then (bq (F_X2_isValid o t0 t_7) (fun r_9 => if r_9 = 0 then (k139 ()) else (bq (F_X3_overlapWith o t1 t_7 ((500 : Int32))) (fun r_10 => grd (inB ((5 : Int32)) 7) (if r_10 ≤ (rd o 3 t0 ((5 : Int32)).toNatClampNeg) then (k139 ()) else (k136 ())))))) else (k139 ())))))
def F_X2_reasonForNoPaper (o : OM) (t0 : Nat) (t1 : Nat) : Option Int32 := bq (F_X1_indexOf o t1 ((0 : Int32))) (fun r_1 => bq (F_X1_indexOf o t1 ((1000 : Int32))) (fun r_2 => bd (fun (_ : Unit) => some ((3 : Int32))) (fun k30 => if r_1 = ((-1 : Int32)) then (k30 ()) else (if r_2 = ((-1 : Int32)) then (k30 ()) else (grd (inB r_1 10) (bq (F_X2_isOld o t0 (rd o 9 t1 r_1.toNatClampNeg)) (fun r_3 => bd (fun (_ : Unit) => some ((4 : Int32))) (fun k64 => if r_3 = 0 then (grd (inB r_2 10) (bq (F_X2_isOld o t0 (rd o 9 t1 r_2.toNatClampNeg)) (fun r_4 => if r_4 = 0 then (bq (F_X2_isValid o t0 t1) (fun r_5 => if r_5 = 0 then (bd (fun (_ : Unit) => some ((6 : Int32))) (fun k136 => bd (fun (_ : Unit) => some ((0 : Int32))) (fun k145 => LX2_reasonForNoPaper_79 k136 k145 o t0 t1 FU ((0 : Int32))))) else (some ((5 : Int32))))) else (k64 ())))) else (k64 ())))))))))
abbrev rmX2_reasonForNoPaper : Room := { frames := 4, cells := 0, slots := 0, locals := 94 }
set_option maxHeartbeats 4000000 in
set_option maxRecDepth 100000 in
theorem lX2_reasonForNoPaper_79 {G : Gd} {p : Program} {l : Launch} {e : Env} {s : State} {m : MethodId} {args : Array Value} {below : List Frame} {meth : Method} {c : Code} {r : Int32} {o : OM} {t0 : Nat} {t1 : Nat} (C : Cx G RX2 cX2_reasonForNoPaper 6 (some .int) p s m args meth c) (ht0 : okb 1 t0 = true) (ht1 : okb 5 t1 = true) {k136 : Unit → Option Int32} {k145 : Unit → Option Int32} (j136 : ∀ H1 L1 ls, Hp G o s H1 L1 → lv_has ls 6 [] → k136 () = some r → W p l e rmX2_reasonForNoPaper s m args below meth c H1 L1 0 0 (Qm G (some (.int r)) o rmX2_reasonForNoPaper below args s) (F0 m 136 ls [])) (j145 : ∀ H1 L1 ls, Hp G o s H1 L1 → lv_has ls 6 [] → k145 () = some r → W p l e rmX2_reasonForNoPaper s m args below meth c H1 L1 0 0 (Qm G (some (.int r)) o rmX2_reasonForNoPaper below args s) (F0 m 145 ls [])) : ∀ (n : Nat) (v4_6 : Int32) H1 L1 ls, Hp G o s H1 L1 → lv_has ls 6 [(0, .ref (rA G 1 t0)), (1, .ref (rA G 5 t1)), (4, .int v4_6)] → LX2_reasonForNoPaper_79 k136 k145 o t0 t1 n v4_6 = some r → W p l e rmX2_reasonForNoPaper s m args below meth c H1 L1 0 0 (Qm G (some (.int r)) o rmX2_reasonForNoPaper below args s) (F0 m 79 ls []) := by
  intro n
  induction n with
  | zero =>
    intro v4_6 H1 L1 ls P hl hf
    exact nomatch hf
  | succ n ih =>
    intro v4_6 H1 L1 ls P hl hf
    rw [LX2_reasonForNoPaper_79.eq_2] at hf
    refine r_iload C hl 2 rfl dX2_reasonForNoPaper_79 ?_
    refine r_aload_n C hl 0 rfl rfl dX2_reasonForNoPaper_81 ?_
    refine gf_1_2 C P ht0 wd_137 dX2_reasonForNoPaper_82 ?_
    refine r_icmp_ge C dX2_reasonForNoPaper_85 hf (fun hf => ?_) (fun hf => ?_)
    · exact j145  _ _ _ P (lv_sub hl [] rfl) hf
    · refine r_aload_n C hl 0 rfl rfl dX2_reasonForNoPaper_88 ?_
      refine gf_1_7 C P ht0 wd_147 dX2_reasonForNoPaper_89 ?_
      refine r_iload C hl 2 rfl dX2_reasonForNoPaper_92 ?_
      refine r_aldT C P ht0 dX2_reasonForNoPaper_94 hf (fun t_7 ht_7 hf => ?_)
      refine r_astore C [(5, .ref (rA G 5 t_7)), (0, .ref (rA G 1 t0)), (1, .ref (rA G 5 t1)), (4, .int v4_6)] hl (by decide) rfl dX2_reasonForNoPaper_95 (fun ls hl => ?_)
      refine r_aload C hl 0 rfl dX2_reasonForNoPaper_97 ?_
      refine gf_5_2 C P ht_7 wd_100 dX2_reasonForNoPaper_99 ?_
      refine r_aload_n C hl 2 rfl rfl dX2_reasonForNoPaper_102 ?_
      refine gf_5_2 C P ht1 wd_100 dX2_reasonForNoPaper_103 ?_
      refine r_jn (fun k139 : Unit → Option Int32 => ∀ H1 L1 ls, Hp G o s H1 L1 → lv_has ls 6 [(0, .ref (rA G 1 t0)), (1, .ref (rA G 5 t1)), (4, .int v4_6)] → k139 () = some r → W p l e rmX2_reasonForNoPaper s m args below meth c H1 L1 0 0 (Qm G (some (.int r)) o rmX2_reasonForNoPaper below args s) (F0 m 139 ls [])) hf ?_ (fun k139 j139 hf => ?_)
      · intro  H1 L1 ls  P hl hf
        refine r_iinc C (fun v4_8 => [(4, .int v4_8), (0, .ref (rA G 1 t0)), (1, .ref (rA G 5 t1))]) (w := 1) 2 hl rfl (by decide) (by decide) (fun _ => rfl) dX2_reasonForNoPaper_139 hf (fun v4_8 ls hl hf => ?_)
        refine r_goto C dX2_reasonForNoPaper_142 ?_
        exact ih v4_8 _ _ _ P (lv_sub hl [1, 2, 0] rfl) hf
      refine r_icmp_ne C dX2_reasonForNoPaper_106 hf (fun hf => ?_) (fun hf => ?_)
      · exact j139  _ _ _ P (lv_sub hl [1, 2, 3] rfl) hf
      · refine r_aload_n C hl 1 rfl rfl dX2_reasonForNoPaper_109 ?_
        refine r_aload C hl 0 rfl dX2_reasonForNoPaper_110 ?_
        refine r_qVi C P cf_X2_109 (rm := rmX2_isValid) 1 t0 (fun _ _ => ⟨_, rfl⟩) rfl rfl ht0 [.ref (rA G 5 t_7)] [] hf (fun _ h => ctX2_isValid l G o t0 t_7 ht0 ht_7 h) ⟨rfl, rfl⟩ ⟨Nat.le_of_ble_eq_true rfl, Nat.le_of_ble_eq_true rfl⟩ ⟨Nat.le_of_ble_eq_true rfl, Nat.le_of_ble_eq_true rfl⟩ rfl rfl hl.1 (Nat.le_of_ble_eq_true rfl) dX2_reasonForNoPaper_112 (fun r_9 H1 L1 P hf => ?_)
        refine r_if_eq C dX2_reasonForNoPaper_115 hf (fun hf => ?_) (fun hf => ?_)
        · exact j139  _ _ _ P (lv_sub hl [1, 2, 3] rfl) hf
        · refine r_aload_n C hl 2 rfl rfl dX2_reasonForNoPaper_118 ?_
          refine r_aload C hl 0 rfl dX2_reasonForNoPaper_119 ?_
          refine r_sipush C (v := 500) (by decide) dX2_reasonForNoPaper_121 ?_
          refine r_qVi C P cf_X2_113 (rm := rmX3_overlapWith) 5 t1 (fun _ _ => ⟨_, rfl⟩) rfl rfl ht1 [.ref (rA G 5 t_7), .int ((500 : Int32))] [] hf (fun _ h => ctX3_overlapWith l G o t1 t_7 ((500 : Int32)) ht1 ht_7 h) ⟨rfl, rfl⟩ ⟨Nat.le_of_ble_eq_true rfl, Nat.le_of_ble_eq_true rfl⟩ ⟨Nat.le_of_ble_eq_true rfl, Nat.le_of_ble_eq_true rfl⟩ rfl rfl hl.1 (Nat.le_of_ble_eq_true rfl) dX2_reasonForNoPaper_124 (fun r_10 H1 L1 P hf => ?_)
          refine r_aload_n C hl 1 rfl rfl dX2_reasonForNoPaper_127 ?_
          refine gf_1_6 C P ht0 wd_145 dX2_reasonForNoPaper_128 ?_
          refine r_iconst C (v := 5) (by decide) dX2_reasonForNoPaper_131 ?_
          refine r_iald C P (k := 3) (i := t0) (n := 7) (fun _ _ => rfl) ht0 dX2_reasonForNoPaper_132 hf (fun hf => ?_)
          refine r_icmp_le C dX2_reasonForNoPaper_133 hf (fun hf => ?_) (fun hf => ?_)
          · exact j139  _ _ _ P (lv_sub hl [1, 2, 3] rfl) hf
          · exact j136  _ _ _ P (lv_sub hl [] rfl) hf
set_option maxHeartbeats 4000000 in
set_option maxRecDepth 100000 in
theorem wX2_reasonForNoPaper {G : Gd} {p : Program} {l : Launch} {e : Env} {s : State} {m : MethodId} {args : Array Value} {below : List Frame} {meth : Method} {c : Code} {o : OM} {H : Heap} {L0 : List Loc} {ls : Array Slot} {r : Int32} {t0 : Nat} {t1 : Nat} (C : Cx G RX2 cX2_reasonForNoPaper 6 (some .int) p s m args meth c) (ht0 : okb 1 t0 = true) (ht1 : okb 5 t1 = true) (P : Hp G o s H L0) (hl : lv_has ls 6 [(0, .ref (rA G 1 t0)), (1, .ref (rA G 5 t1))]) (hf : F_X2_reasonForNoPaper o t0 t1 = some r) : W p l e rmX2_reasonForNoPaper s m args below meth c H L0 0 0 (Qm G (some (.int r)) o rmX2_reasonForNoPaper below args s) (F0 m 0 ls []) := by
  unfold F_X2_reasonForNoPaper at hf
  refine r_aload_n C hl 1 rfl rfl dX2_reasonForNoPaper_0 ?_
  refine gf_5_7 C P ht1 wd_115 dX2_reasonForNoPaper_1 ?_
  refine r_iconst C (v := 0) (by decide) dX2_reasonForNoPaper_4 ?_
  refine r_qVi C P cf_X2_98 (rm := rmX1_indexOf) 6 t1 (fun _ _ => ⟨_, rfl⟩) rfl rfl ht1 [.int ((0 : Int32))] [] hf (fun _ h => ctX1_indexOf l G o t1 ((0 : Int32)) ht1 h) ⟨rfl, rfl⟩ ⟨Nat.le_of_ble_eq_true rfl, Nat.le_of_ble_eq_true rfl⟩ ⟨Nat.le_of_ble_eq_true rfl, Nat.le_of_ble_eq_true rfl⟩ rfl rfl hl.1 (Nat.le_of_ble_eq_true rfl) dX2_reasonForNoPaper_5 (fun r_1 H1 L1 P hf => ?_)
  refine r_istore_n C [(2, .int r_1), (0, .ref (rA G 1 t0)), (1, .ref (rA G 5 t1))] hl (by decide) rfl rfl dX2_reasonForNoPaper_8 (fun ls hl => ?_)
  refine r_aload_n C hl 2 rfl rfl dX2_reasonForNoPaper_9 ?_
  refine gf_5_7 C P ht1 wd_115 dX2_reasonForNoPaper_10 ?_
  refine r_sipush C (v := 1000) (by decide) dX2_reasonForNoPaper_13 ?_
  refine r_qVi C P cf_X2_98 (rm := rmX1_indexOf) 6 t1 (fun _ _ => ⟨_, rfl⟩) rfl rfl ht1 [.int ((1000 : Int32))] [] hf (fun _ h => ctX1_indexOf l G o t1 ((1000 : Int32)) ht1 h) ⟨rfl, rfl⟩ ⟨Nat.le_of_ble_eq_true rfl, Nat.le_of_ble_eq_true rfl⟩ ⟨Nat.le_of_ble_eq_true rfl, Nat.le_of_ble_eq_true rfl⟩ rfl rfl hl.1 (Nat.le_of_ble_eq_true rfl) dX2_reasonForNoPaper_16 (fun r_2 H1 L1 P hf => ?_)
  refine r_istore_n C [(3, .int r_2), (2, .int r_1), (0, .ref (rA G 1 t0)), (1, .ref (rA G 5 t1))] hl (by decide) rfl rfl dX2_reasonForNoPaper_19 (fun ls hl => ?_)
  refine r_iload_n C hl 1 rfl rfl dX2_reasonForNoPaper_20 ?_
  refine r_iconst C (v := -1) (by decide) dX2_reasonForNoPaper_21 ?_
  refine r_jn (fun k30 : Unit → Option Int32 => ∀ H1 L1 ls, Hp G o s H1 L1 → lv_has ls 6 [] → k30 () = some r → W p l e rmX2_reasonForNoPaper s m args below meth c H1 L1 0 0 (Qm G (some (.int r)) o rmX2_reasonForNoPaper below args s) (F0 m 30 ls [])) hf ?_ (fun k30 j30 hf => ?_)
  · intro  H1 L1 ls  P hl hf
    refine r_iconst C (v := 3) (by decide) dX2_reasonForNoPaper_30 ?_
    exact q_iret C P (rm := rmX2_reasonForNoPaper) ⟨rfl, rfl⟩ dX2_reasonForNoPaper_31 hf
  refine r_icmp_eq C dX2_reasonForNoPaper_22 hf (fun hf => ?_) (fun hf => ?_)
  · exact j30  _ _ _ P (lv_sub hl [] rfl) hf
  · refine r_iload_n C hl 0 rfl rfl dX2_reasonForNoPaper_25 ?_
    refine r_iconst C (v := -1) (by decide) dX2_reasonForNoPaper_26 ?_
    refine r_icmp_ne C dX2_reasonForNoPaper_27 hf (fun hf => ?_) (fun hf => ?_)
    · refine r_aload_n C hl 2 rfl rfl dX2_reasonForNoPaper_32 ?_
      refine r_aload_n C hl 3 rfl rfl dX2_reasonForNoPaper_33 ?_
      refine gf_5_7 C P ht1 wd_115 dX2_reasonForNoPaper_34 ?_
      refine gf_6_3 C P ht1 wd_71 dX2_reasonForNoPaper_37 ?_
      refine r_iload_n C hl 1 rfl rfl dX2_reasonForNoPaper_40 ?_
      refine r_iald C P (k := 9) (i := t1) (n := 10) (fun _ _ => rfl) ht1 dX2_reasonForNoPaper_41 hf (fun hf => ?_)
      refine r_qVi C P cf_X2_106 (rm := rmX2_isOld) 1 t0 (fun _ _ => ⟨_, rfl⟩) rfl rfl ht0 [.int (rd o 9 t1 r_1.toNatClampNeg)] [] hf (fun _ h => ctX2_isOld l G o t0 (rd o 9 t1 r_1.toNatClampNeg) ht0 h) ⟨rfl, rfl⟩ ⟨Nat.le_of_ble_eq_true rfl, Nat.le_of_ble_eq_true rfl⟩ ⟨Nat.le_of_ble_eq_true rfl, Nat.le_of_ble_eq_true rfl⟩ rfl rfl hl.1 (Nat.le_of_ble_eq_true rfl) dX2_reasonForNoPaper_42 (fun r_3 H1 L1 P hf => ?_)
      refine r_jn (fun k64 : Unit → Option Int32 => ∀ H1 L1 ls, Hp G o s H1 L1 → lv_has ls 6 [] → k64 () = some r → W p l e rmX2_reasonForNoPaper s m args below meth c H1 L1 0 0 (Qm G (some (.int r)) o rmX2_reasonForNoPaper below args s) (F0 m 64 ls [])) hf ?_ (fun k64 j64 hf => ?_)
      · intro  H1 L1 ls  P hl hf
        refine r_iconst C (v := 4) (by decide) dX2_reasonForNoPaper_64 ?_
        exact q_iret C P (rm := rmX2_reasonForNoPaper) ⟨rfl, rfl⟩ dX2_reasonForNoPaper_65 hf
      refine r_if_ne C dX2_reasonForNoPaper_45 hf (fun hf => ?_) (fun hf => ?_)
      · exact j64  _ _ _ P (lv_sub hl [] rfl) hf
      · refine r_aload_n C hl 2 rfl rfl dX2_reasonForNoPaper_48 ?_
        refine r_aload_n C hl 3 rfl rfl dX2_reasonForNoPaper_49 ?_
        refine gf_5_7 C P ht1 wd_115 dX2_reasonForNoPaper_50 ?_
        refine gf_6_3 C P ht1 wd_71 dX2_reasonForNoPaper_53 ?_
        refine r_iload_n C hl 0 rfl rfl dX2_reasonForNoPaper_56 ?_
        refine r_iald C P (k := 9) (i := t1) (n := 10) (fun _ _ => rfl) ht1 dX2_reasonForNoPaper_57 hf (fun hf => ?_)
        refine r_qVi C P cf_X2_106 (rm := rmX2_isOld) 1 t0 (fun _ _ => ⟨_, rfl⟩) rfl rfl ht0 [.int (rd o 9 t1 r_2.toNatClampNeg)] [] hf (fun _ h => ctX2_isOld l G o t0 (rd o 9 t1 r_2.toNatClampNeg) ht0 h) ⟨rfl, rfl⟩ ⟨Nat.le_of_ble_eq_true rfl, Nat.le_of_ble_eq_true rfl⟩ ⟨Nat.le_of_ble_eq_true rfl, Nat.le_of_ble_eq_true rfl⟩ rfl rfl hl.1 (Nat.le_of_ble_eq_true rfl) dX2_reasonForNoPaper_58 (fun r_4 H1 L1 P hf => ?_)
        refine r_if_eq C dX2_reasonForNoPaper_61 hf (fun hf => ?_) (fun hf => ?_)
        · refine r_aload_n C hl 2 rfl rfl dX2_reasonForNoPaper_66 ?_
          refine r_aload_n C hl 3 rfl rfl dX2_reasonForNoPaper_67 ?_
          refine r_qVi C P cf_X2_109 (rm := rmX2_isValid) 1 t0 (fun _ _ => ⟨_, rfl⟩) rfl rfl ht0 [.ref (rA G 5 t1)] [] hf (fun _ h => ctX2_isValid l G o t0 t1 ht0 ht1 h) ⟨rfl, rfl⟩ ⟨Nat.le_of_ble_eq_true rfl, Nat.le_of_ble_eq_true rfl⟩ ⟨Nat.le_of_ble_eq_true rfl, Nat.le_of_ble_eq_true rfl⟩ rfl rfl hl.1 (Nat.le_of_ble_eq_true rfl) dX2_reasonForNoPaper_68 (fun r_5 H1 L1 P hf => ?_)
          refine r_if_eq C dX2_reasonForNoPaper_71 hf (fun hf => ?_) (fun hf => ?_)
          · refine r_iconst C (v := 0) (by decide) dX2_reasonForNoPaper_76 ?_
            refine r_istore C [(4, .int ((0 : Int32))), (3, .int r_2), (2, .int r_1), (0, .ref (rA G 1 t0)), (1, .ref (rA G 5 t1))] hl (by decide) rfl dX2_reasonForNoPaper_77 (fun ls hl => ?_)
            refine r_jn (fun k136 : Unit → Option Int32 => ∀ H1 L1 ls, Hp G o s H1 L1 → lv_has ls 6 [] → k136 () = some r → W p l e rmX2_reasonForNoPaper s m args below meth c H1 L1 0 0 (Qm G (some (.int r)) o rmX2_reasonForNoPaper below args s) (F0 m 136 ls [])) hf ?_ (fun k136 j136 hf => ?_)
            · intro  H1 L1 ls  P hl hf
              refine r_bipush C (v := 6) (by decide) dX2_reasonForNoPaper_136 ?_
              exact q_iret C P (rm := rmX2_reasonForNoPaper) ⟨rfl, rfl⟩ dX2_reasonForNoPaper_138 hf
            refine r_jn (fun k145 : Unit → Option Int32 => ∀ H1 L1 ls, Hp G o s H1 L1 → lv_has ls 6 [] → k145 () = some r → W p l e rmX2_reasonForNoPaper s m args below meth c H1 L1 0 0 (Qm G (some (.int r)) o rmX2_reasonForNoPaper below args s) (F0 m 145 ls [])) hf ?_ (fun k145 j145 hf => ?_)
            · intro  H1 L1 ls  P hl hf
              refine r_iconst C (v := 0) (by decide) dX2_reasonForNoPaper_145 ?_
              exact q_iret C P (rm := rmX2_reasonForNoPaper) ⟨rfl, rfl⟩ dX2_reasonForNoPaper_146 hf
            exact lX2_reasonForNoPaper_79 C ht0 ht1 j136 j145 FU ((0 : Int32)) _ _ _ P (lv_sub hl [3, 4, 0] rfl) hf
          · refine r_iconst C (v := 5) (by decide) dX2_reasonForNoPaper_74 ?_
            exact q_iret C P (rm := rmX2_reasonForNoPaper) ⟨rfl, rfl⟩ dX2_reasonForNoPaper_75 hf
        · exact j64  _ _ _ P (lv_sub hl [] rfl) hf
    · exact j30  _ _ _ P (lv_sub hl [] rfl) hf
theorem ctX2_reasonForNoPaper (l : Launch) (G : Gd) (o : OM) (t0 : Nat) (t1 : Nat) (ht0 : okb 1 t0 = true) (ht1 : okb 5 t1 = true) {r : Int32} (hf : F_X2_reasonForNoPaper o t0 t1 = some r) : Ct l yX2_reasonForNoPaper cX2_reasonForNoPaper 6 (some .int) rmX2_reasonForNoPaper G [.ref (rA G 1 t0), .ref (rA G 5 t1)] o (some (.int r)) o := ct_of (by decide +kernel) (Nat.le_of_ble_eq_true rfl) (fun p e s m below meth c ls C P hl => wX2_reasonForNoPaper C ht0 ht1 P hl hf)
theorem dX2_giveSeal_0 : Dc cX2_giveSeal 0 (.aload_n 0) 1 1 := ⟨by decide +kernel, rfl⟩
theorem dX2_giveSeal_1 : Dc cX2_giveSeal 1 (.dup) 1 2 := ⟨by decide +kernel, rfl⟩
theorem dX2_giveSeal_2 : Dc cX2_giveSeal 2 (.getfield 46) 3 5 := ⟨by decide +kernel, rfl⟩
theorem dX2_giveSeal_5 : Dc cX2_giveSeal 5 (.iconst 1) 1 6 := ⟨by decide +kernel, rfl⟩
theorem dX2_giveSeal_6 : Dc cX2_giveSeal 6 (.iadd) 1 7 := ⟨by decide +kernel, rfl⟩
theorem dX2_giveSeal_7 : Dc cX2_giveSeal 7 (.putfield 46) 3 10 := ⟨by decide +kernel, rfl⟩
theorem dX2_giveSeal_10 : Dc cX2_giveSeal 10 (.aload_n 1) 1 11 := ⟨by decide +kernel, rfl⟩
theorem dX2_giveSeal_11 : Dc cX2_giveSeal 11 (.aload_n 0) 1 12 := ⟨by decide +kernel, rfl⟩
theorem dX2_giveSeal_12 : Dc cX2_giveSeal 12 (.getfield 46) 3 15 := ⟨by decide +kernel, rfl⟩
theorem dX2_giveSeal_15 : Dc cX2_giveSeal 15 (.putfield 85) 3 18 := ⟨by decide +kernel, rfl⟩
theorem dX2_giveSeal_18 : Dc cX2_giveSeal 18 (.aload_n 1) 1 19 := ⟨by decide +kernel, rfl⟩
theorem dX2_giveSeal_19 : Dc cX2_giveSeal 19 (.aload_n 1) 1 20 := ⟨by decide +kernel, rfl⟩
theorem dX2_giveSeal_20 : Dc cX2_giveSeal 20 (.getfield 88) 3 23 := ⟨by decide +kernel, rfl⟩
theorem dX2_giveSeal_23 : Dc cX2_giveSeal 23 (.putfield 91) 3 26 := ⟨by decide +kernel, rfl⟩
theorem dX2_giveSeal_26 : Dc cX2_giveSeal 26 (.return_) 1 27 := ⟨by decide +kernel, rfl⟩
def F_X2_giveSeal (o : OM) (t0 : Nat) (t1 : Nat) : Option (Unit × OM) := bd (wr o 1 t0 1 ((rd o 1 t0 1) + ((1 : Int32)))) (fun o_1 : OM => bd (wr o_1 5 t1 5 (rd o_1 1 t0 1)) (fun o_2 : OM => bd (wr o_2 5 t1 6 (rd o_2 5 t1 4)) (fun o_3 : OM => some ((), o_3))))
abbrev rmX2_giveSeal : Room := { frames := 0, cells := 0, slots := 0, locals := 0 }
set_option maxHeartbeats 4000000 in
set_option maxRecDepth 100000 in
theorem wX2_giveSeal {G : Gd} {p : Program} {l : Launch} {e : Env} {s : State} {m : MethodId} {args : Array Value} {below : List Frame} {meth : Method} {c : Code} {o : OM} {H : Heap} {L0 : List Loc} {ls : Array Slot} {r : Unit} {o9 : OM} {t0 : Nat} {t1 : Nat} (C : Cx G RX2 cX2_giveSeal 2 none p s m args meth c) (ht0 : okb 1 t0 = true) (ht1 : okb 5 t1 = true) (P : Hp G o s H L0) (hl : lv_has ls 2 [(0, .ref (rA G 1 t0)), (1, .ref (rA G 5 t1))]) (hf : F_X2_giveSeal o t0 t1 = some (r, o9)) : W p l e rmX2_giveSeal s m args below meth c H L0 0 0 (Qm G none o9 rmX2_giveSeal below args s) (F0 m 0 ls []) := by
  unfold F_X2_giveSeal at hf
  refine r_aload_n C hl 0 rfl rfl dX2_giveSeal_0 ?_
  refine r_dup C rfl dX2_giveSeal_1 ?_
  refine gf_1_1 C P ht0 wd_135 dX2_giveSeal_2 ?_
  refine r_iconst C (v := 1) (by decide) dX2_giveSeal_5 ?_
  refine r_iadd2 C dX2_giveSeal_6 ?_
  refine pf_1_1 C P ht0 wd_135 dX2_giveSeal_7 hf (fun o_1 H1 L1 P hf => ?_)
  refine r_aload_n C hl 1 rfl rfl dX2_giveSeal_10 ?_
  refine r_aload_n C hl 0 rfl rfl dX2_giveSeal_11 ?_
  refine gf_1_1 C P ht0 wd_135 dX2_giveSeal_12 ?_
  refine pf_5_5 C P ht1 wd_110 dX2_giveSeal_15 hf (fun o_2 H1 L1 P hf => ?_)
  refine r_aload_n C hl 1 rfl rfl dX2_giveSeal_18 ?_
  refine r_aload_n C hl 1 rfl rfl dX2_giveSeal_19 ?_
  refine gf_5_4 C P ht1 wd_106 dX2_giveSeal_20 ?_
  refine pf_5_6 C P ht1 wd_112 dX2_giveSeal_23 hf (fun o_3 H1 L1 P hf => ?_)
  exact r_vret C P (rm := rmX2_giveSeal) ⟨rfl, rfl⟩ dX2_giveSeal_26 hf
theorem ctX2_giveSeal (l : Launch) (G : Gd) (o : OM) (t0 : Nat) (t1 : Nat) (ht0 : okb 1 t0 = true) (ht1 : okb 5 t1 = true) {r : Unit} {o9 : OM} (hf : F_X2_giveSeal o t0 t1 = some (r, o9)) : Ct l yX2_giveSeal cX2_giveSeal 2 none rmX2_giveSeal G [.ref (rA G 1 t0), .ref (rA G 5 t1)] o none o9 := ct_of (by decide +kernel) (Nat.le_of_ble_eq_true rfl) (fun p e s m below meth c ls C P hl => wX2_giveSeal C ht0 ht1 P hl hf)
theorem cf_X2_120 : CallF true RX2 120 yX3_creepOfYear cX3_creepOfYear 3 (some .int) 2 := ⟨wd_637, (by rw [if_pos rfl]; exact wd_459), wd_12, wd_460, by decide, by decide +kernel⟩
theorem dX2_yearsUntilVoid_0 : Dc cX2_yearsUntilVoid 0 (.aload_n 1) 1 1 := ⟨by decide +kernel, rfl⟩
theorem dX2_yearsUntilVoid_1 : Dc cX2_yearsUntilVoid 1 (.getfield 85) 3 4 := ⟨by decide +kernel, rfl⟩
theorem dX2_yearsUntilVoid_4 : Dc cX2_yearsUntilVoid 4 (.iconst (-1)) 1 5 := ⟨by decide +kernel, rfl⟩
theorem dX2_yearsUntilVoid_5 : Dj cX2_yearsUntilVoid 5 (.if_icmp .ne 5) 3 8 (5) 10 := ⟨by decide +kernel, rfl, by decide⟩
theorem dX2_yearsUntilVoid_8 : Dc cX2_yearsUntilVoid 8 (.iconst (-1)) 1 9 := ⟨by decide +kernel, rfl⟩
theorem dX2_yearsUntilVoid_9 : Dc cX2_yearsUntilVoid 9 (.ireturn) 1 10 := ⟨by decide +kernel, rfl⟩
theorem dX2_yearsUntilVoid_10 : Dc cX2_yearsUntilVoid 10 (.aload_n 1) 1 11 := ⟨by decide +kernel, rfl⟩
theorem dX2_yearsUntilVoid_11 : Dc cX2_yearsUntilVoid 11 (.getfield 88) 3 14 := ⟨by decide +kernel, rfl⟩
theorem dX2_yearsUntilVoid_14 : Dc cX2_yearsUntilVoid 14 (.aload_n 1) 1 15 := ⟨by decide +kernel, rfl⟩
theorem dX2_yearsUntilVoid_15 : Dc cX2_yearsUntilVoid 15 (.getfield 91) 3 18 := ⟨by decide +kernel, rfl⟩
theorem dX2_yearsUntilVoid_18 : Dc cX2_yearsUntilVoid 18 (.isub) 1 19 := ⟨by decide +kernel, rfl⟩
theorem dX2_yearsUntilVoid_19 : Dc cX2_yearsUntilVoid 19 (.istore_n 2) 1 20 := ⟨by decide +kernel, rfl⟩
theorem dX2_yearsUntilVoid_20 : Dc cX2_yearsUntilVoid 20 (.iconst 0) 1 21 := ⟨by decide +kernel, rfl⟩
theorem dX2_yearsUntilVoid_21 : Dc cX2_yearsUntilVoid 21 (.istore_n 3) 1 22 := ⟨by decide +kernel, rfl⟩
theorem dX2_yearsUntilVoid_22 : Dc cX2_yearsUntilVoid 22 (.iload_n 3) 1 23 := ⟨by decide +kernel, rfl⟩
theorem dX2_yearsUntilVoid_23 : Dc cX2_yearsUntilVoid 23 (.bipush 50) 2 25 := ⟨by decide +kernel, rfl⟩
theorem dX2_yearsUntilVoid_25 : Dj cX2_yearsUntilVoid 25 (.if_icmp .gt 39) 3 28 (39) 64 := ⟨by decide +kernel, rfl, by decide⟩
theorem dX2_yearsUntilVoid_28 : Dc cX2_yearsUntilVoid 28 (.iload_n 2) 1 29 := ⟨by decide +kernel, rfl⟩
theorem dX2_yearsUntilVoid_29 : Dc cX2_yearsUntilVoid 29 (.aload_n 0) 1 30 := ⟨by decide +kernel, rfl⟩
theorem dX2_yearsUntilVoid_30 : Dc cX2_yearsUntilVoid 30 (.getfield 33) 3 33 := ⟨by decide +kernel, rfl⟩
theorem dX2_yearsUntilVoid_33 : Dc cX2_yearsUntilVoid 33 (.bipush 6) 2 35 := ⟨by decide +kernel, rfl⟩
theorem dX2_yearsUntilVoid_35 : Dc cX2_yearsUntilVoid 35 (.iaload) 1 36 := ⟨by decide +kernel, rfl⟩
theorem dX2_yearsUntilVoid_36 : Dj cX2_yearsUntilVoid 36 (.if_icmp .le 5) 3 39 (5) 41 := ⟨by decide +kernel, rfl, by decide⟩
theorem dX2_yearsUntilVoid_39 : Dc cX2_yearsUntilVoid 39 (.iload_n 3) 1 40 := ⟨by decide +kernel, rfl⟩
theorem dX2_yearsUntilVoid_40 : Dc cX2_yearsUntilVoid 40 (.ireturn) 1 41 := ⟨by decide +kernel, rfl⟩
theorem dX2_yearsUntilVoid_41 : Dc cX2_yearsUntilVoid 41 (.iload_n 2) 1 42 := ⟨by decide +kernel, rfl⟩
theorem dX2_yearsUntilVoid_42 : Dc cX2_yearsUntilVoid 42 (.aload_n 0) 1 43 := ⟨by decide +kernel, rfl⟩
theorem dX2_yearsUntilVoid_43 : Dc cX2_yearsUntilVoid 43 (.aload_n 1) 1 44 := ⟨by decide +kernel, rfl⟩
theorem dX2_yearsUntilVoid_44 : Dc cX2_yearsUntilVoid 44 (.invokevirtual 74) 3 47 := ⟨by decide +kernel, rfl⟩
theorem dX2_yearsUntilVoid_47 : Dc cX2_yearsUntilVoid 47 (.aload_n 1) 1 48 := ⟨by decide +kernel, rfl⟩
theorem dX2_yearsUntilVoid_48 : Dc cX2_yearsUntilVoid 48 (.getfield 117) 3 51 := ⟨by decide +kernel, rfl⟩
theorem dX2_yearsUntilVoid_51 : Dc cX2_yearsUntilVoid 51 (.iload_n 3) 1 52 := ⟨by decide +kernel, rfl⟩
theorem dX2_yearsUntilVoid_52 : Dc cX2_yearsUntilVoid 52 (.iadd) 1 53 := ⟨by decide +kernel, rfl⟩
theorem dX2_yearsUntilVoid_53 : Dc cX2_yearsUntilVoid 53 (.invokestatic 120) 3 56 := ⟨by decide +kernel, rfl⟩
theorem dX2_yearsUntilVoid_56 : Dc cX2_yearsUntilVoid 56 (.iadd) 1 57 := ⟨by decide +kernel, rfl⟩
theorem dX2_yearsUntilVoid_57 : Dc cX2_yearsUntilVoid 57 (.istore_n 2) 1 58 := ⟨by decide +kernel, rfl⟩
theorem dX2_yearsUntilVoid_58 : Dc cX2_yearsUntilVoid 58 (.iinc 3 1) 3 61 := ⟨by decide +kernel, rfl⟩
theorem dX2_yearsUntilVoid_61 : Dj cX2_yearsUntilVoid 61 (.goto (-39)) 3 64 (-39) 22 := ⟨by decide +kernel, rfl, by decide⟩
theorem dX2_yearsUntilVoid_64 : Dc cX2_yearsUntilVoid 64 (.iconst (-1)) 1 65 := ⟨by decide +kernel, rfl⟩
theorem dX2_yearsUntilVoid_65 : Dc cX2_yearsUntilVoid 65 (.ireturn) 1 66 := ⟨by decide +kernel, rfl⟩
def LX2_yearsUntilVoid_22 (k39 : Int32 → Option Int32) (k64 : Unit → Option Int32) (o : OM) (t0 : Nat) (t1 : Nat) : Nat → Int32 → Int32 → Option Int32
  | 0 => fun _ _ => none
  | n + 1 => fun v2_3 v3_4 => if ((50 : Int32)) < v3_4 then (k64 ()) else (grd (inB ((6 : Int32)) 7) (if v2_3 ≤ (rd o 3 t0 ((6 : Int32)).toNatClampNeg) then (bq (F_X2_creepOf o t0 t1) (fun r_5 => bq (F_X3_creepOfYear o r_5 ((rd o 5 t1 3) + v3_4)) (fun r_6 => bd (v2_3 + r_6) (fun v2_7 : Int32 => bd (v3_4 + (1 : Int32)) (fun v3_8 : Int32 => (LX2_yearsUntilVoid_22 k39 k64 o t0 t1 n) v2_7 v3_8))))) else (k39 v3_4)))
def F_X2_yearsUntilVoid (o : OM) (t0 : Nat) (t1 : Nat) : Option Int32 := if (rd o 5 t1 5) = ((-1 : Int32)) then (some ((-1 : Int32))) else (bd ((rd o 5 t1 4) - (rd o 5 t1 6)) (fun v2_1 : Int32 => bd (fun (v3_2 : Int32) => some v3_2) (fun k39 => bd (fun (_ : Unit) => some ((-1 : Int32))) (fun k64 => LX2_yearsUntilVoid_22 k39 k64 o t0 t1 FU v2_1 ((0 : Int32))))))
abbrev rmX2_yearsUntilVoid : Room := { frames := 2, cells := 0, slots := 0, locals := 44 }
set_option maxHeartbeats 4000000 in
set_option maxRecDepth 100000 in
theorem lX2_yearsUntilVoid_22 {G : Gd} {p : Program} {l : Launch} {e : Env} {s : State} {m : MethodId} {args : Array Value} {below : List Frame} {meth : Method} {c : Code} {r : Int32} {o : OM} {t0 : Nat} {t1 : Nat} (C : Cx G RX2 cX2_yearsUntilVoid 4 (some .int) p s m args meth c) (ht0 : okb 1 t0 = true) (ht1 : okb 5 t1 = true) {k39 : Int32 → Option Int32} {k64 : Unit → Option Int32} (j39 : ∀ (v3_2 : Int32) H1 L1 ls, Hp G o s H1 L1 → lv_has ls 4 [(3, .int v3_2)] → k39 v3_2 = some r → W p l e rmX2_yearsUntilVoid s m args below meth c H1 L1 0 0 (Qm G (some (.int r)) o rmX2_yearsUntilVoid below args s) (F0 m 39 ls [])) (j64 : ∀ H1 L1 ls, Hp G o s H1 L1 → lv_has ls 4 [] → k64 () = some r → W p l e rmX2_yearsUntilVoid s m args below meth c H1 L1 0 0 (Qm G (some (.int r)) o rmX2_yearsUntilVoid below args s) (F0 m 64 ls [])) : ∀ (n : Nat) (v2_3 : Int32) (v3_4 : Int32) H1 L1 ls, Hp G o s H1 L1 → lv_has ls 4 [(0, .ref (rA G 1 t0)), (1, .ref (rA G 5 t1)), (2, .int v2_3), (3, .int v3_4)] → LX2_yearsUntilVoid_22 k39 k64 o t0 t1 n v2_3 v3_4 = some r → W p l e rmX2_yearsUntilVoid s m args below meth c H1 L1 0 0 (Qm G (some (.int r)) o rmX2_yearsUntilVoid below args s) (F0 m 22 ls []) := by
  intro n
  induction n with
  | zero =>
    intro v2_3 v3_4 H1 L1 ls P hl hf
    exact nomatch hf
  | succ n ih =>
    intro v2_3 v3_4 H1 L1 ls P hl hf
    rw [LX2_yearsUntilVoid_22.eq_2] at hf
    refine r_iload_n C hl 3 rfl rfl dX2_yearsUntilVoid_22 ?_
    refine r_bipush C (v := 50) (by decide) dX2_yearsUntilVoid_23 ?_
    refine r_icmp_gt C dX2_yearsUntilVoid_25 hf (fun hf => ?_) (fun hf => ?_)
    · exact j64  _ _ _ P (lv_sub hl [] rfl) hf
    · refine r_iload_n C hl 2 rfl rfl dX2_yearsUntilVoid_28 ?_
      refine r_aload_n C hl 0 rfl rfl dX2_yearsUntilVoid_29 ?_
      refine gf_1_6 C P ht0 wd_145 dX2_yearsUntilVoid_30 ?_
      refine r_bipush C (v := 6) (by decide) dX2_yearsUntilVoid_33 ?_
      refine r_iald C P (k := 3) (i := t0) (n := 7) (fun _ _ => rfl) ht0 dX2_yearsUntilVoid_35 hf (fun hf => ?_)
      refine r_icmp_le C dX2_yearsUntilVoid_36 hf (fun hf => ?_) (fun hf => ?_)
      · refine r_iload_n C hl 2 rfl rfl dX2_yearsUntilVoid_41 ?_
        refine r_aload_n C hl 0 rfl rfl dX2_yearsUntilVoid_42 ?_
        refine r_aload_n C hl 1 rfl rfl dX2_yearsUntilVoid_43 ?_
        refine r_qVi C P cf_X2_74 (rm := rmX2_creepOf) 1 t0 (fun _ _ => ⟨_, rfl⟩) rfl rfl ht0 [.ref (rA G 5 t1)] [.int v2_3] hf (fun _ h => ctX2_creepOf l G o t0 t1 ht0 ht1 h) ⟨rfl, rfl⟩ ⟨Nat.le_of_ble_eq_true rfl, Nat.le_of_ble_eq_true rfl⟩ ⟨Nat.le_of_ble_eq_true rfl, Nat.le_of_ble_eq_true rfl⟩ rfl rfl hl.1 (Nat.le_of_ble_eq_true rfl) dX2_yearsUntilVoid_44 (fun r_5 H1 L1 P hf => ?_)
        refine r_aload_n C hl 1 rfl rfl dX2_yearsUntilVoid_47 ?_
        refine gf_5_3 C P ht1 wd_103 dX2_yearsUntilVoid_48 ?_
        refine r_iload_n C hl 3 rfl rfl dX2_yearsUntilVoid_51 ?_
        refine r_iadd2 C dX2_yearsUntilVoid_52 ?_
        refine r_qSi C P cf_X2_120 (rm := rmX3_creepOfYear) [.int r_5, .int ((rd o 5 t1 3) + v3_4)] [.int v2_3] hf (fun _ h => ctX3_creepOfYear l G o r_5 ((rd o 5 t1 3) + v3_4) h) ⟨rfl, rfl⟩ ⟨Nat.le_of_ble_eq_true rfl, Nat.le_of_ble_eq_true rfl⟩ ⟨Nat.le_of_ble_eq_true rfl, Nat.le_of_ble_eq_true rfl⟩ rfl rfl hl.1 (Nat.le_of_ble_eq_true rfl) dX2_yearsUntilVoid_53 (fun r_6 H1 L1 P hf => ?_)
        refine r_iadd2 C dX2_yearsUntilVoid_56 ?_
        refine r_bdi hf (fun v2_7 hf => ?_)
        refine r_istore_n C [(2, .int v2_7), (0, .ref (rA G 1 t0)), (1, .ref (rA G 5 t1)), (3, .int v3_4)] hl (by decide) rfl rfl dX2_yearsUntilVoid_57 (fun ls hl => ?_)
        refine r_iinc C (fun v3_8 => [(3, .int v3_8), (2, .int v2_7), (0, .ref (rA G 1 t0)), (1, .ref (rA G 5 t1))]) (w := 1) 3 hl rfl (by decide) (by decide) (fun _ => rfl) dX2_yearsUntilVoid_58 hf (fun v3_8 ls hl hf => ?_)
        refine r_goto C dX2_yearsUntilVoid_61 ?_
        exact ih v2_7 v3_8 _ _ _ P (lv_sub hl [2, 3, 1, 0] rfl) hf
      · exact j39 v3_4 _ _ _ P (lv_sub hl [3] rfl) hf
set_option maxHeartbeats 4000000 in
set_option maxRecDepth 100000 in
theorem wX2_yearsUntilVoid {G : Gd} {p : Program} {l : Launch} {e : Env} {s : State} {m : MethodId} {args : Array Value} {below : List Frame} {meth : Method} {c : Code} {o : OM} {H : Heap} {L0 : List Loc} {ls : Array Slot} {r : Int32} {t0 : Nat} {t1 : Nat} (C : Cx G RX2 cX2_yearsUntilVoid 4 (some .int) p s m args meth c) (ht0 : okb 1 t0 = true) (ht1 : okb 5 t1 = true) (P : Hp G o s H L0) (hl : lv_has ls 4 [(0, .ref (rA G 1 t0)), (1, .ref (rA G 5 t1))]) (hf : F_X2_yearsUntilVoid o t0 t1 = some r) : W p l e rmX2_yearsUntilVoid s m args below meth c H L0 0 0 (Qm G (some (.int r)) o rmX2_yearsUntilVoid below args s) (F0 m 0 ls []) := by
  unfold F_X2_yearsUntilVoid at hf
  refine r_aload_n C hl 1 rfl rfl dX2_yearsUntilVoid_0 ?_
  refine gf_5_5 C P ht1 wd_110 dX2_yearsUntilVoid_1 ?_
  refine r_iconst C (v := -1) (by decide) dX2_yearsUntilVoid_4 ?_
  refine r_icmp_ne C dX2_yearsUntilVoid_5 hf (fun hf => ?_) (fun hf => ?_)
  · refine r_aload_n C hl 1 rfl rfl dX2_yearsUntilVoid_10 ?_
    refine gf_5_4 C P ht1 wd_106 dX2_yearsUntilVoid_11 ?_
    refine r_aload_n C hl 1 rfl rfl dX2_yearsUntilVoid_14 ?_
    refine gf_5_6 C P ht1 wd_112 dX2_yearsUntilVoid_15 ?_
    refine r_isub C dX2_yearsUntilVoid_18 ?_
    refine r_bdi hf (fun v2_1 hf => ?_)
    refine r_istore_n C [(2, .int v2_1), (0, .ref (rA G 1 t0)), (1, .ref (rA G 5 t1))] hl (by decide) rfl rfl dX2_yearsUntilVoid_19 (fun ls hl => ?_)
    refine r_iconst C (v := 0) (by decide) dX2_yearsUntilVoid_20 ?_
    refine r_istore_n C [(3, .int ((0 : Int32))), (2, .int v2_1), (0, .ref (rA G 1 t0)), (1, .ref (rA G 5 t1))] hl (by decide) rfl rfl dX2_yearsUntilVoid_21 (fun ls hl => ?_)
    refine r_jn (fun k39 : Int32 → Option Int32 => ∀ (v3_2 : Int32) H1 L1 ls, Hp G o s H1 L1 → lv_has ls 4 [(3, .int v3_2)] → k39 v3_2 = some r → W p l e rmX2_yearsUntilVoid s m args below meth c H1 L1 0 0 (Qm G (some (.int r)) o rmX2_yearsUntilVoid below args s) (F0 m 39 ls [])) hf ?_ (fun k39 j39 hf => ?_)
    · intro v3_2 H1 L1 ls  P hl hf
      refine r_iload_n C hl 0 rfl rfl dX2_yearsUntilVoid_39 ?_
      exact q_iret C P (rm := rmX2_yearsUntilVoid) ⟨rfl, rfl⟩ dX2_yearsUntilVoid_40 hf
    refine r_jn (fun k64 : Unit → Option Int32 => ∀ H1 L1 ls, Hp G o s H1 L1 → lv_has ls 4 [] → k64 () = some r → W p l e rmX2_yearsUntilVoid s m args below meth c H1 L1 0 0 (Qm G (some (.int r)) o rmX2_yearsUntilVoid below args s) (F0 m 64 ls [])) hf ?_ (fun k64 j64 hf => ?_)
    · intro  H1 L1 ls  P hl hf
      refine r_iconst C (v := -1) (by decide) dX2_yearsUntilVoid_64 ?_
      exact q_iret C P (rm := rmX2_yearsUntilVoid) ⟨rfl, rfl⟩ dX2_yearsUntilVoid_65 hf
    exact lX2_yearsUntilVoid_22 C ht0 ht1 j39 j64 FU v2_1 ((0 : Int32)) _ _ _ P (lv_sub hl [2, 3, 1, 0] rfl) hf
  · refine r_iconst C (v := -1) (by decide) dX2_yearsUntilVoid_8 ?_
    exact q_iret C P (rm := rmX2_yearsUntilVoid) ⟨rfl, rfl⟩ dX2_yearsUntilVoid_9 hf
theorem ctX2_yearsUntilVoid (l : Launch) (G : Gd) (o : OM) (t0 : Nat) (t1 : Nat) (ht0 : okb 1 t0 = true) (ht1 : okb 5 t1 = true) {r : Int32} (hf : F_X2_yearsUntilVoid o t0 t1 = some r) : Ct l yX2_yearsUntilVoid cX2_yearsUntilVoid 4 (some .int) rmX2_yearsUntilVoid G [.ref (rA G 1 t0), .ref (rA G 5 t1)] o (some (.int r)) o := ct_of (by decide +kernel) (Nat.le_of_ble_eq_true rfl) (fun p e s m below meth c ls C P hl => wX2_yearsUntilVoid C ht0 ht1 P hl hf)
theorem dX2_allPoints_0 : Dc cX2_allPoints 0 (.iconst 0) 1 1 := ⟨by decide +kernel, rfl⟩
theorem dX2_allPoints_1 : Dc cX2_allPoints 1 (.istore_n 1) 1 2 := ⟨by decide +kernel, rfl⟩
theorem dX2_allPoints_2 : Dc cX2_allPoints 2 (.iconst 0) 1 3 := ⟨by decide +kernel, rfl⟩
theorem dX2_allPoints_3 : Dc cX2_allPoints 3 (.istore_n 2) 1 4 := ⟨by decide +kernel, rfl⟩
theorem dX2_allPoints_4 : Dc cX2_allPoints 4 (.iload_n 2) 1 5 := ⟨by decide +kernel, rfl⟩
theorem dX2_allPoints_5 : Dc cX2_allPoints 5 (.aload_n 0) 1 6 := ⟨by decide +kernel, rfl⟩
theorem dX2_allPoints_6 : Dc cX2_allPoints 6 (.getfield 49) 3 9 := ⟨by decide +kernel, rfl⟩
theorem dX2_allPoints_9 : Dj cX2_allPoints 9 (.if_icmp .ge 24) 3 12 (24) 33 := ⟨by decide +kernel, rfl, by decide⟩
theorem dX2_allPoints_12 : Dc cX2_allPoints 12 (.iload_n 1) 1 13 := ⟨by decide +kernel, rfl⟩
theorem dX2_allPoints_13 : Dc cX2_allPoints 13 (.aload_n 0) 1 14 := ⟨by decide +kernel, rfl⟩
theorem dX2_allPoints_14 : Dc cX2_allPoints 14 (.getfield 38) 3 17 := ⟨by decide +kernel, rfl⟩
theorem dX2_allPoints_17 : Dc cX2_allPoints 17 (.iload_n 2) 1 18 := ⟨by decide +kernel, rfl⟩
theorem dX2_allPoints_18 : Dc cX2_allPoints 18 (.aaload) 1 19 := ⟨by decide +kernel, rfl⟩
theorem dX2_allPoints_19 : Dc cX2_allPoints 19 (.getfield 94) 3 22 := ⟨by decide +kernel, rfl⟩
theorem dX2_allPoints_22 : Dc cX2_allPoints 22 (.getfield 124) 3 25 := ⟨by decide +kernel, rfl⟩
theorem dX2_allPoints_25 : Dc cX2_allPoints 25 (.iadd) 1 26 := ⟨by decide +kernel, rfl⟩
theorem dX2_allPoints_26 : Dc cX2_allPoints 26 (.istore_n 1) 1 27 := ⟨by decide +kernel, rfl⟩
theorem dX2_allPoints_27 : Dc cX2_allPoints 27 (.iinc 2 1) 3 30 := ⟨by decide +kernel, rfl⟩
theorem dX2_allPoints_30 : Dj cX2_allPoints 30 (.goto (-26)) 3 33 (-26) 4 := ⟨by decide +kernel, rfl, by decide⟩
theorem dX2_allPoints_33 : Dc cX2_allPoints 33 (.iload_n 1) 1 34 := ⟨by decide +kernel, rfl⟩
theorem dX2_allPoints_34 : Dc cX2_allPoints 34 (.ireturn) 1 35 := ⟨by decide +kernel, rfl⟩
def LX2_allPoints_4 (k33 : Int32 → Option Int32) (o : OM) (t0 : Nat) : Nat → Int32 → Int32 → Option Int32
  | 0 => fun _ _ => none
  | n + 1 => fun v1_2 v2_3 => if (rd o 1 t0 2) ≤ v2_3 then (k33 v1_2) else (grd (inB v2_3 6) (bd (tid t0 (rd o 4 t0 v2_3.toNatClampNeg)) (fun t_4 : Nat => bd (v1_2 + (rd o 6 t_4 0)) (fun v1_5 : Int32 => bd (v2_3 + (1 : Int32)) (fun v2_6 : Int32 => (LX2_allPoints_4 k33 o t0 n) v1_5 v2_6)))))
def F_X2_allPoints (o : OM) (t0 : Nat) : Option Int32 := bd (fun (v1_1 : Int32) => some v1_1) (fun k33 => LX2_allPoints_4 k33 o t0 FU ((0 : Int32)) ((0 : Int32)))
abbrev rmX2_allPoints : Room := { frames := 0, cells := 0, slots := 0, locals := 0 }
set_option maxHeartbeats 4000000 in
set_option maxRecDepth 100000 in
theorem lX2_allPoints_4 {G : Gd} {p : Program} {l : Launch} {e : Env} {s : State} {m : MethodId} {args : Array Value} {below : List Frame} {meth : Method} {c : Code} {r : Int32} {o : OM} {t0 : Nat} (C : Cx G RX2 cX2_allPoints 3 (some .int) p s m args meth c) (ht0 : okb 1 t0 = true) {k33 : Int32 → Option Int32} (j33 : ∀ (v1_1 : Int32) H1 L1 ls, Hp G o s H1 L1 → lv_has ls 3 [(1, .int v1_1)] → k33 v1_1 = some r → W p l e rmX2_allPoints s m args below meth c H1 L1 0 0 (Qm G (some (.int r)) o rmX2_allPoints below args s) (F0 m 33 ls [])) : ∀ (n : Nat) (v1_2 : Int32) (v2_3 : Int32) H1 L1 ls, Hp G o s H1 L1 → lv_has ls 3 [(0, .ref (rA G 1 t0)), (1, .int v1_2), (2, .int v2_3)] → LX2_allPoints_4 k33 o t0 n v1_2 v2_3 = some r → W p l e rmX2_allPoints s m args below meth c H1 L1 0 0 (Qm G (some (.int r)) o rmX2_allPoints below args s) (F0 m 4 ls []) := by
  intro n
  induction n with
  | zero =>
    intro v1_2 v2_3 H1 L1 ls P hl hf
    exact nomatch hf
  | succ n ih =>
    intro v1_2 v2_3 H1 L1 ls P hl hf
    rw [LX2_allPoints_4.eq_2] at hf
    refine r_iload_n C hl 2 rfl rfl dX2_allPoints_4 ?_
    refine r_aload_n C hl 0 rfl rfl dX2_allPoints_5 ?_
    refine gf_1_2 C P ht0 wd_137 dX2_allPoints_6 ?_
    refine r_icmp_ge C dX2_allPoints_9 hf (fun hf => ?_) (fun hf => ?_)
    · exact j33 v1_2 _ _ _ P (lv_sub hl [1] rfl) hf
    · refine r_iload_n C hl 1 rfl rfl dX2_allPoints_12 ?_
      refine r_aload_n C hl 0 rfl rfl dX2_allPoints_13 ?_
      refine gf_1_7 C P ht0 wd_147 dX2_allPoints_14 ?_
      refine r_iload_n C hl 2 rfl rfl dX2_allPoints_17 ?_
      refine r_aldT C P ht0 dX2_allPoints_18 hf (fun t_4 ht_4 hf => ?_)
      refine gf_5_7 C P ht_4 wd_115 dX2_allPoints_19 ?_
      refine gf_6_0 C P ht_4 wd_65 dX2_allPoints_22 ?_
      refine r_iadd2 C dX2_allPoints_25 ?_
      refine r_bdi hf (fun v1_5 hf => ?_)
      refine r_istore_n C [(1, .int v1_5), (0, .ref (rA G 1 t0)), (2, .int v2_3)] hl (by decide) rfl rfl dX2_allPoints_26 (fun ls hl => ?_)
      refine r_iinc C (fun v2_6 => [(2, .int v2_6), (1, .int v1_5), (0, .ref (rA G 1 t0))]) (w := 1) 2 hl rfl (by decide) (by decide) (fun _ => rfl) dX2_allPoints_27 hf (fun v2_6 ls hl hf => ?_)
      refine r_goto C dX2_allPoints_30 ?_
      exact ih v1_5 v2_6 _ _ _ P (lv_sub hl [2, 1, 0] rfl) hf
set_option maxHeartbeats 4000000 in
set_option maxRecDepth 100000 in
theorem wX2_allPoints {G : Gd} {p : Program} {l : Launch} {e : Env} {s : State} {m : MethodId} {args : Array Value} {below : List Frame} {meth : Method} {c : Code} {o : OM} {H : Heap} {L0 : List Loc} {ls : Array Slot} {r : Int32} {t0 : Nat} (C : Cx G RX2 cX2_allPoints 3 (some .int) p s m args meth c) (ht0 : okb 1 t0 = true) (P : Hp G o s H L0) (hl : lv_has ls 3 [(0, .ref (rA G 1 t0))]) (hf : F_X2_allPoints o t0 = some r) : W p l e rmX2_allPoints s m args below meth c H L0 0 0 (Qm G (some (.int r)) o rmX2_allPoints below args s) (F0 m 0 ls []) := by
  unfold F_X2_allPoints at hf
  refine r_iconst C (v := 0) (by decide) dX2_allPoints_0 ?_
  refine r_istore_n C [(1, .int ((0 : Int32))), (0, .ref (rA G 1 t0))] hl (by decide) rfl rfl dX2_allPoints_1 (fun ls hl => ?_)
  refine r_iconst C (v := 0) (by decide) dX2_allPoints_2 ?_
  refine r_istore_n C [(2, .int ((0 : Int32))), (1, .int ((0 : Int32))), (0, .ref (rA G 1 t0))] hl (by decide) rfl rfl dX2_allPoints_3 (fun ls hl => ?_)
  refine r_jn (fun k33 : Int32 → Option Int32 => ∀ (v1_1 : Int32) H1 L1 ls, Hp G o s H1 L1 → lv_has ls 3 [(1, .int v1_1)] → k33 v1_1 = some r → W p l e rmX2_allPoints s m args below meth c H1 L1 0 0 (Qm G (some (.int r)) o rmX2_allPoints below args s) (F0 m 33 ls [])) hf ?_ (fun k33 j33 hf => ?_)
  · intro v1_1 H1 L1 ls  P hl hf
    refine r_iload_n C hl 0 rfl rfl dX2_allPoints_33 ?_
    exact q_iret C P (rm := rmX2_allPoints) ⟨rfl, rfl⟩ dX2_allPoints_34 hf
  exact lX2_allPoints_4 C ht0 j33 FU ((0 : Int32)) ((0 : Int32)) _ _ _ P (lv_sub hl [2, 1, 0] rfl) hf
theorem ctX2_allPoints (l : Launch) (G : Gd) (o : OM) (t0 : Nat) (ht0 : okb 1 t0 = true) {r : Int32} (hf : F_X2_allPoints o t0 = some r) : Ct l yX2_allPoints cX2_allPoints 3 (some .int) rmX2_allPoints G [.ref (rA G 1 t0)] o (some (.int r)) o := ct_of (by decide +kernel) (Nat.le_of_ble_eq_true rfl) (fun p e s m below meth c ls C P hl => wX2_allPoints C ht0 P hl hf)
theorem dX2_validPapers_0 : Dc cX2_validPapers 0 (.iconst 0) 1 1 := ⟨by decide +kernel, rfl⟩
theorem dX2_validPapers_1 : Dc cX2_validPapers 1 (.istore_n 1) 1 2 := ⟨by decide +kernel, rfl⟩
theorem dX2_validPapers_2 : Dc cX2_validPapers 2 (.iconst 0) 1 3 := ⟨by decide +kernel, rfl⟩
theorem dX2_validPapers_3 : Dc cX2_validPapers 3 (.istore_n 2) 1 4 := ⟨by decide +kernel, rfl⟩
theorem dX2_validPapers_4 : Dc cX2_validPapers 4 (.iload_n 2) 1 5 := ⟨by decide +kernel, rfl⟩
theorem dX2_validPapers_5 : Dc cX2_validPapers 5 (.aload_n 0) 1 6 := ⟨by decide +kernel, rfl⟩
theorem dX2_validPapers_6 : Dc cX2_validPapers 6 (.getfield 49) 3 9 := ⟨by decide +kernel, rfl⟩
theorem dX2_validPapers_9 : Dj cX2_validPapers 9 (.if_icmp .ge 30) 3 12 (30) 39 := ⟨by decide +kernel, rfl, by decide⟩
theorem dX2_validPapers_12 : Dc cX2_validPapers 12 (.iload_n 1) 1 13 := ⟨by decide +kernel, rfl⟩
theorem dX2_validPapers_13 : Dc cX2_validPapers 13 (.aload_n 0) 1 14 := ⟨by decide +kernel, rfl⟩
theorem dX2_validPapers_14 : Dc cX2_validPapers 14 (.aload_n 0) 1 15 := ⟨by decide +kernel, rfl⟩
theorem dX2_validPapers_15 : Dc cX2_validPapers 15 (.getfield 38) 3 18 := ⟨by decide +kernel, rfl⟩
theorem dX2_validPapers_18 : Dc cX2_validPapers 18 (.iload_n 2) 1 19 := ⟨by decide +kernel, rfl⟩
theorem dX2_validPapers_19 : Dc cX2_validPapers 19 (.aaload) 1 20 := ⟨by decide +kernel, rfl⟩
theorem dX2_validPapers_20 : Dc cX2_validPapers 20 (.invokevirtual 109) 3 23 := ⟨by decide +kernel, rfl⟩
theorem dX2_validPapers_23 : Dj cX2_validPapers 23 (.ifCond .eq 7) 3 26 (7) 30 := ⟨by decide +kernel, rfl, by decide⟩
theorem dX2_validPapers_26 : Dc cX2_validPapers 26 (.iconst 1) 1 27 := ⟨by decide +kernel, rfl⟩
theorem dX2_validPapers_27 : Dj cX2_validPapers 27 (.goto 4) 3 30 (4) 31 := ⟨by decide +kernel, rfl, by decide⟩
theorem dX2_validPapers_30 : Dc cX2_validPapers 30 (.iconst 0) 1 31 := ⟨by decide +kernel, rfl⟩
theorem dX2_validPapers_31 : Dc cX2_validPapers 31 (.iadd) 1 32 := ⟨by decide +kernel, rfl⟩
theorem dX2_validPapers_32 : Dc cX2_validPapers 32 (.istore_n 1) 1 33 := ⟨by decide +kernel, rfl⟩
theorem dX2_validPapers_33 : Dc cX2_validPapers 33 (.iinc 2 1) 3 36 := ⟨by decide +kernel, rfl⟩
theorem dX2_validPapers_36 : Dj cX2_validPapers 36 (.goto (-32)) 3 39 (-32) 4 := ⟨by decide +kernel, rfl, by decide⟩
theorem dX2_validPapers_39 : Dc cX2_validPapers 39 (.iload_n 1) 1 40 := ⟨by decide +kernel, rfl⟩
theorem dX2_validPapers_40 : Dc cX2_validPapers 40 (.ireturn) 1 41 := ⟨by decide +kernel, rfl⟩
def LX2_validPapers_4 (k39 : Int32 → Option Int32) (o : OM) (t0 : Nat) : Nat → Int32 → Int32 → Option Int32
  | 0 => fun _ _ => none
  | n + 1 => fun v1_2 v2_3 => if (rd o 1 t0 2) ≤ v2_3 then (k39 v1_2) else (grd (inB v2_3 6) (bd (tid t0 (rd o 4 t0 v2_3.toNatClampNeg)) (fun t_4 : Nat => bq (F_X2_isValid o t0 t_4) (fun r_5 => bd (fun (s_6 : Int32) => bd (v1_2 + s_6) (fun v1_7 : Int32 => bd (v2_3 + (1 : Int32)) (fun v2_8 : Int32 => (LX2_validPapers_4 k39 o t0 n) v1_7 v2_8))) (fun k31 => if r_5 = 0 then (k31 ((0 : Int32))) else (k31 ((1 : Int32))))))))
def F_X2_validPapers (o : OM) (t0 : Nat) : Option Int32 := bd (fun (v1_1 : Int32) => some v1_1) (fun k39 => LX2_validPapers_4 k39 o t0 FU ((0 : Int32)) ((0 : Int32)))
abbrev rmX2_validPapers : Room := { frames := 1, cells := 0, slots := 0, locals := 21 }
set_option maxHeartbeats 4000000 in
set_option maxRecDepth 100000 in
theorem lX2_validPapers_4 {G : Gd} {p : Program} {l : Launch} {e : Env} {s : State} {m : MethodId} {args : Array Value} {below : List Frame} {meth : Method} {c : Code} {r : Int32} {o : OM} {t0 : Nat} (C : Cx G RX2 cX2_validPapers 3 (some .int) p s m args meth c) (ht0 : okb 1 t0 = true) {k39 : Int32 → Option Int32} (j39 : ∀ (v1_1 : Int32) H1 L1 ls, Hp G o s H1 L1 → lv_has ls 3 [(1, .int v1_1)] → k39 v1_1 = some r → W p l e rmX2_validPapers s m args below meth c H1 L1 0 0 (Qm G (some (.int r)) o rmX2_validPapers below args s) (F0 m 39 ls [])) : ∀ (n : Nat) (v1_2 : Int32) (v2_3 : Int32) H1 L1 ls, Hp G o s H1 L1 → lv_has ls 3 [(0, .ref (rA G 1 t0)), (1, .int v1_2), (2, .int v2_3)] → LX2_validPapers_4 k39 o t0 n v1_2 v2_3 = some r → W p l e rmX2_validPapers s m args below meth c H1 L1 0 0 (Qm G (some (.int r)) o rmX2_validPapers below args s) (F0 m 4 ls []) := by
  intro n
  induction n with
  | zero =>
    intro v1_2 v2_3 H1 L1 ls P hl hf
    exact nomatch hf
  | succ n ih =>
    intro v1_2 v2_3 H1 L1 ls P hl hf
    rw [LX2_validPapers_4.eq_2] at hf
    refine r_iload_n C hl 2 rfl rfl dX2_validPapers_4 ?_
    refine r_aload_n C hl 0 rfl rfl dX2_validPapers_5 ?_
    refine gf_1_2 C P ht0 wd_137 dX2_validPapers_6 ?_
    refine r_icmp_ge C dX2_validPapers_9 hf (fun hf => ?_) (fun hf => ?_)
    · exact j39 v1_2 _ _ _ P (lv_sub hl [1] rfl) hf
    · refine r_iload_n C hl 1 rfl rfl dX2_validPapers_12 ?_
      refine r_aload_n C hl 0 rfl rfl dX2_validPapers_13 ?_
      refine r_aload_n C hl 0 rfl rfl dX2_validPapers_14 ?_
      refine gf_1_7 C P ht0 wd_147 dX2_validPapers_15 ?_
      refine r_iload_n C hl 2 rfl rfl dX2_validPapers_18 ?_
      refine r_aldT C P ht0 dX2_validPapers_19 hf (fun t_4 ht_4 hf => ?_)
      refine r_qVi C P cf_X2_109 (rm := rmX2_isValid) 1 t0 (fun _ _ => ⟨_, rfl⟩) rfl rfl ht0 [.ref (rA G 5 t_4)] [.int v1_2] hf (fun _ h => ctX2_isValid l G o t0 t_4 ht0 ht_4 h) ⟨rfl, rfl⟩ ⟨Nat.le_of_ble_eq_true rfl, Nat.le_of_ble_eq_true rfl⟩ ⟨Nat.le_of_ble_eq_true rfl, Nat.le_of_ble_eq_true rfl⟩ rfl rfl hl.1 (Nat.le_of_ble_eq_true rfl) dX2_validPapers_20 (fun r_5 H1 L1 P hf => ?_)
      refine r_jn (fun k31 : Int32 → Option Int32 => ∀ (s_6 : Int32) H1 L1 ls, Hp G o s H1 L1 → lv_has ls 3 [(0, .ref (rA G 1 t0)), (2, .int v2_3)] → k31 s_6 = some r → W p l e rmX2_validPapers s m args below meth c H1 L1 0 0 (Qm G (some (.int r)) o rmX2_validPapers below args s) (F0 m 31 ls [.int s_6, .int v1_2])) hf ?_ (fun k31 j31 hf => ?_)
      · intro s_6 H1 L1 ls  P hl hf
        refine r_iadd2 C dX2_validPapers_31 ?_
        refine r_bdi hf (fun v1_7 hf => ?_)
        refine r_istore_n C [(1, .int v1_7), (0, .ref (rA G 1 t0)), (2, .int v2_3)] hl (by decide) rfl rfl dX2_validPapers_32 (fun ls hl => ?_)
        refine r_iinc C (fun v2_8 => [(2, .int v2_8), (1, .int v1_7), (0, .ref (rA G 1 t0))]) (w := 1) 2 hl rfl (by decide) (by decide) (fun _ => rfl) dX2_validPapers_33 hf (fun v2_8 ls hl hf => ?_)
        refine r_goto C dX2_validPapers_36 ?_
        exact ih v1_7 v2_8 _ _ _ P (lv_sub hl [2, 1, 0] rfl) hf
      refine r_if_eq C dX2_validPapers_23 hf (fun hf => ?_) (fun hf => ?_)
      · refine r_iconst C (v := 0) (by decide) dX2_validPapers_30 ?_
        exact j31 ((0 : Int32)) _ _ _ P (lv_sub hl [0, 2] rfl) hf
      · refine r_iconst C (v := 1) (by decide) dX2_validPapers_26 ?_
        refine r_goto C dX2_validPapers_27 ?_
        exact j31 ((1 : Int32)) _ _ _ P (lv_sub hl [0, 2] rfl) hf
set_option maxHeartbeats 4000000 in
set_option maxRecDepth 100000 in
theorem wX2_validPapers {G : Gd} {p : Program} {l : Launch} {e : Env} {s : State} {m : MethodId} {args : Array Value} {below : List Frame} {meth : Method} {c : Code} {o : OM} {H : Heap} {L0 : List Loc} {ls : Array Slot} {r : Int32} {t0 : Nat} (C : Cx G RX2 cX2_validPapers 3 (some .int) p s m args meth c) (ht0 : okb 1 t0 = true) (P : Hp G o s H L0) (hl : lv_has ls 3 [(0, .ref (rA G 1 t0))]) (hf : F_X2_validPapers o t0 = some r) : W p l e rmX2_validPapers s m args below meth c H L0 0 0 (Qm G (some (.int r)) o rmX2_validPapers below args s) (F0 m 0 ls []) := by
  unfold F_X2_validPapers at hf
  refine r_iconst C (v := 0) (by decide) dX2_validPapers_0 ?_
  refine r_istore_n C [(1, .int ((0 : Int32))), (0, .ref (rA G 1 t0))] hl (by decide) rfl rfl dX2_validPapers_1 (fun ls hl => ?_)
  refine r_iconst C (v := 0) (by decide) dX2_validPapers_2 ?_
  refine r_istore_n C [(2, .int ((0 : Int32))), (1, .int ((0 : Int32))), (0, .ref (rA G 1 t0))] hl (by decide) rfl rfl dX2_validPapers_3 (fun ls hl => ?_)
  refine r_jn (fun k39 : Int32 → Option Int32 => ∀ (v1_1 : Int32) H1 L1 ls, Hp G o s H1 L1 → lv_has ls 3 [(1, .int v1_1)] → k39 v1_1 = some r → W p l e rmX2_validPapers s m args below meth c H1 L1 0 0 (Qm G (some (.int r)) o rmX2_validPapers below args s) (F0 m 39 ls [])) hf ?_ (fun k39 j39 hf => ?_)
  · intro v1_1 H1 L1 ls  P hl hf
    refine r_iload_n C hl 0 rfl rfl dX2_validPapers_39 ?_
    exact q_iret C P (rm := rmX2_validPapers) ⟨rfl, rfl⟩ dX2_validPapers_40 hf
  exact lX2_validPapers_4 C ht0 j39 FU ((0 : Int32)) ((0 : Int32)) _ _ _ P (lv_sub hl [2, 1, 0] rfl) hf
theorem ctX2_validPapers (l : Launch) (G : Gd) (o : OM) (t0 : Nat) (ht0 : okb 1 t0 = true) {r : Int32} (hf : F_X2_validPapers o t0 = some r) : Ct l yX2_validPapers cX2_validPapers 3 (some .int) rmX2_validPapers G [.ref (rA G 1 t0)] o (some (.int r)) o := ct_of (by decide +kernel) (Nat.le_of_ble_eq_true rfl) (fun p e s m below meth c ls C P hl => wX2_validPapers C ht0 P hl hf)
theorem dX2_allCrept_0 : Dc cX2_allCrept 0 (.iconst 0) 1 1 := ⟨by decide +kernel, rfl⟩
theorem dX2_allCrept_1 : Dc cX2_allCrept 1 (.istore_n 1) 1 2 := ⟨by decide +kernel, rfl⟩
theorem dX2_allCrept_2 : Dc cX2_allCrept 2 (.iconst 0) 1 3 := ⟨by decide +kernel, rfl⟩
theorem dX2_allCrept_3 : Dc cX2_allCrept 3 (.istore_n 2) 1 4 := ⟨by decide +kernel, rfl⟩
theorem dX2_allCrept_4 : Dc cX2_allCrept 4 (.iload_n 2) 1 5 := ⟨by decide +kernel, rfl⟩
theorem dX2_allCrept_5 : Dc cX2_allCrept 5 (.aload_n 0) 1 6 := ⟨by decide +kernel, rfl⟩
theorem dX2_allCrept_6 : Dc cX2_allCrept 6 (.getfield 49) 3 9 := ⟨by decide +kernel, rfl⟩
theorem dX2_allCrept_9 : Dj cX2_allCrept 9 (.if_icmp .ge 21) 3 12 (21) 30 := ⟨by decide +kernel, rfl, by decide⟩
theorem dX2_allCrept_12 : Dc cX2_allCrept 12 (.iload_n 1) 1 13 := ⟨by decide +kernel, rfl⟩
theorem dX2_allCrept_13 : Dc cX2_allCrept 13 (.aload_n 0) 1 14 := ⟨by decide +kernel, rfl⟩
theorem dX2_allCrept_14 : Dc cX2_allCrept 14 (.getfield 38) 3 17 := ⟨by decide +kernel, rfl⟩
theorem dX2_allCrept_17 : Dc cX2_allCrept 17 (.iload_n 2) 1 18 := ⟨by decide +kernel, rfl⟩
theorem dX2_allCrept_18 : Dc cX2_allCrept 18 (.aaload) 1 19 := ⟨by decide +kernel, rfl⟩
theorem dX2_allCrept_19 : Dc cX2_allCrept 19 (.getfield 88) 3 22 := ⟨by decide +kernel, rfl⟩
theorem dX2_allCrept_22 : Dc cX2_allCrept 22 (.iadd) 1 23 := ⟨by decide +kernel, rfl⟩
theorem dX2_allCrept_23 : Dc cX2_allCrept 23 (.istore_n 1) 1 24 := ⟨by decide +kernel, rfl⟩
theorem dX2_allCrept_24 : Dc cX2_allCrept 24 (.iinc 2 1) 3 27 := ⟨by decide +kernel, rfl⟩
theorem dX2_allCrept_27 : Dj cX2_allCrept 27 (.goto (-23)) 3 30 (-23) 4 := ⟨by decide +kernel, rfl, by decide⟩
theorem dX2_allCrept_30 : Dc cX2_allCrept 30 (.iload_n 1) 1 31 := ⟨by decide +kernel, rfl⟩
theorem dX2_allCrept_31 : Dc cX2_allCrept 31 (.ireturn) 1 32 := ⟨by decide +kernel, rfl⟩
def LX2_allCrept_4 (k30 : Int32 → Option Int32) (o : OM) (t0 : Nat) : Nat → Int32 → Int32 → Option Int32
  | 0 => fun _ _ => none
  | n + 1 => fun v1_2 v2_3 => if (rd o 1 t0 2) ≤ v2_3 then (k30 v1_2) else (grd (inB v2_3 6) (bd (tid t0 (rd o 4 t0 v2_3.toNatClampNeg)) (fun t_4 : Nat => bd (v1_2 + (rd o 5 t_4 4)) (fun v1_5 : Int32 => bd (v2_3 + (1 : Int32)) (fun v2_6 : Int32 => (LX2_allCrept_4 k30 o t0 n) v1_5 v2_6)))))
def F_X2_allCrept (o : OM) (t0 : Nat) : Option Int32 := bd (fun (v1_1 : Int32) => some v1_1) (fun k30 => LX2_allCrept_4 k30 o t0 FU ((0 : Int32)) ((0 : Int32)))
abbrev rmX2_allCrept : Room := { frames := 0, cells := 0, slots := 0, locals := 0 }
set_option maxHeartbeats 4000000 in
set_option maxRecDepth 100000 in
theorem lX2_allCrept_4 {G : Gd} {p : Program} {l : Launch} {e : Env} {s : State} {m : MethodId} {args : Array Value} {below : List Frame} {meth : Method} {c : Code} {r : Int32} {o : OM} {t0 : Nat} (C : Cx G RX2 cX2_allCrept 3 (some .int) p s m args meth c) (ht0 : okb 1 t0 = true) {k30 : Int32 → Option Int32} (j30 : ∀ (v1_1 : Int32) H1 L1 ls, Hp G o s H1 L1 → lv_has ls 3 [(1, .int v1_1)] → k30 v1_1 = some r → W p l e rmX2_allCrept s m args below meth c H1 L1 0 0 (Qm G (some (.int r)) o rmX2_allCrept below args s) (F0 m 30 ls [])) : ∀ (n : Nat) (v1_2 : Int32) (v2_3 : Int32) H1 L1 ls, Hp G o s H1 L1 → lv_has ls 3 [(0, .ref (rA G 1 t0)), (1, .int v1_2), (2, .int v2_3)] → LX2_allCrept_4 k30 o t0 n v1_2 v2_3 = some r → W p l e rmX2_allCrept s m args below meth c H1 L1 0 0 (Qm G (some (.int r)) o rmX2_allCrept below args s) (F0 m 4 ls []) := by
  intro n
  induction n with
  | zero =>
    intro v1_2 v2_3 H1 L1 ls P hl hf
    exact nomatch hf
  | succ n ih =>
    intro v1_2 v2_3 H1 L1 ls P hl hf
    rw [LX2_allCrept_4.eq_2] at hf
    refine r_iload_n C hl 2 rfl rfl dX2_allCrept_4 ?_
    refine r_aload_n C hl 0 rfl rfl dX2_allCrept_5 ?_
    refine gf_1_2 C P ht0 wd_137 dX2_allCrept_6 ?_
    refine r_icmp_ge C dX2_allCrept_9 hf (fun hf => ?_) (fun hf => ?_)
    · exact j30 v1_2 _ _ _ P (lv_sub hl [1] rfl) hf
    · refine r_iload_n C hl 1 rfl rfl dX2_allCrept_12 ?_
      refine r_aload_n C hl 0 rfl rfl dX2_allCrept_13 ?_
      refine gf_1_7 C P ht0 wd_147 dX2_allCrept_14 ?_
      refine r_iload_n C hl 2 rfl rfl dX2_allCrept_17 ?_
      refine r_aldT C P ht0 dX2_allCrept_18 hf (fun t_4 ht_4 hf => ?_)
      refine gf_5_4 C P ht_4 wd_106 dX2_allCrept_19 ?_
      refine r_iadd2 C dX2_allCrept_22 ?_
      refine r_bdi hf (fun v1_5 hf => ?_)
      refine r_istore_n C [(1, .int v1_5), (0, .ref (rA G 1 t0)), (2, .int v2_3)] hl (by decide) rfl rfl dX2_allCrept_23 (fun ls hl => ?_)
      refine r_iinc C (fun v2_6 => [(2, .int v2_6), (1, .int v1_5), (0, .ref (rA G 1 t0))]) (w := 1) 2 hl rfl (by decide) (by decide) (fun _ => rfl) dX2_allCrept_24 hf (fun v2_6 ls hl hf => ?_)
      refine r_goto C dX2_allCrept_27 ?_
      exact ih v1_5 v2_6 _ _ _ P (lv_sub hl [2, 1, 0] rfl) hf
set_option maxHeartbeats 4000000 in
set_option maxRecDepth 100000 in
theorem wX2_allCrept {G : Gd} {p : Program} {l : Launch} {e : Env} {s : State} {m : MethodId} {args : Array Value} {below : List Frame} {meth : Method} {c : Code} {o : OM} {H : Heap} {L0 : List Loc} {ls : Array Slot} {r : Int32} {t0 : Nat} (C : Cx G RX2 cX2_allCrept 3 (some .int) p s m args meth c) (ht0 : okb 1 t0 = true) (P : Hp G o s H L0) (hl : lv_has ls 3 [(0, .ref (rA G 1 t0))]) (hf : F_X2_allCrept o t0 = some r) : W p l e rmX2_allCrept s m args below meth c H L0 0 0 (Qm G (some (.int r)) o rmX2_allCrept below args s) (F0 m 0 ls []) := by
  unfold F_X2_allCrept at hf
  refine r_iconst C (v := 0) (by decide) dX2_allCrept_0 ?_
  refine r_istore_n C [(1, .int ((0 : Int32))), (0, .ref (rA G 1 t0))] hl (by decide) rfl rfl dX2_allCrept_1 (fun ls hl => ?_)
  refine r_iconst C (v := 0) (by decide) dX2_allCrept_2 ?_
  refine r_istore_n C [(2, .int ((0 : Int32))), (1, .int ((0 : Int32))), (0, .ref (rA G 1 t0))] hl (by decide) rfl rfl dX2_allCrept_3 (fun ls hl => ?_)
  refine r_jn (fun k30 : Int32 → Option Int32 => ∀ (v1_1 : Int32) H1 L1 ls, Hp G o s H1 L1 → lv_has ls 3 [(1, .int v1_1)] → k30 v1_1 = some r → W p l e rmX2_allCrept s m args below meth c H1 L1 0 0 (Qm G (some (.int r)) o rmX2_allCrept below args s) (F0 m 30 ls [])) hf ?_ (fun k30 j30 hf => ?_)
  · intro v1_1 H1 L1 ls  P hl hf
    refine r_iload_n C hl 0 rfl rfl dX2_allCrept_30 ?_
    exact q_iret C P (rm := rmX2_allCrept) ⟨rfl, rfl⟩ dX2_allCrept_31 hf
  exact lX2_allCrept_4 C ht0 j30 FU ((0 : Int32)) ((0 : Int32)) _ _ _ P (lv_sub hl [2, 1, 0] rfl) hf
theorem ctX2_allCrept (l : Launch) (G : Gd) (o : OM) (t0 : Nat) (ht0 : okb 1 t0 = true) {r : Int32} (hf : F_X2_allCrept o t0 = some r) : Ct l yX2_allCrept cX2_allCrept 3 (some .int) rmX2_allCrept G [.ref (rA G 1 t0)] o (some (.int r)) o := ct_of (by decide +kernel) (Nat.le_of_ble_eq_true rfl) (fun p e s m below meth c ls C P hl => wX2_allCrept C ht0 P hl hf)
theorem cf_X3_56 : CallF false RX3 56 yX1_indexOf cX1_indexOf 3 (some .int) 1 := ⟨wd_480, (by rw [if_neg (by decide)]; exact ⟨wd_481, wd_482⟩), wd_13, wd_483, by decide, by decide +kernel⟩
theorem cf_X3_63 : CallF false RX3 63 yX1_crosses cX1_crosses 4 (some .boolean) 2 := ⟨wd_488, (by rw [if_neg (by decide)]; exact ⟨wd_489, wd_490⟩), wd_13, wd_491, by decide, by decide +kernel⟩
theorem dX3_reasonNotToMeasure_0 : Dc cX3_reasonNotToMeasure 0 (.aload_n 0) 1 1 := ⟨by decide +kernel, rfl⟩
theorem dX3_reasonNotToMeasure_1 : Dc cX3_reasonNotToMeasure 1 (.getfield 18) 3 4 := ⟨by decide +kernel, rfl⟩
theorem dX3_reasonNotToMeasure_4 : Dc cX3_reasonNotToMeasure 4 (.getfield 40) 3 7 := ⟨by decide +kernel, rfl⟩
theorem dX3_reasonNotToMeasure_7 : Dc cX3_reasonNotToMeasure 7 (.bipush 10) 2 9 := ⟨by decide +kernel, rfl⟩
theorem dX3_reasonNotToMeasure_9 : Dj cX3_reasonNotToMeasure 9 (.if_icmp .lt 17) 3 12 (17) 26 := ⟨by decide +kernel, rfl, by decide⟩
theorem dX3_reasonNotToMeasure_12 : Dc cX3_reasonNotToMeasure 12 (.aload_n 0) 1 13 := ⟨by decide +kernel, rfl⟩
theorem dX3_reasonNotToMeasure_13 : Dc cX3_reasonNotToMeasure 13 (.getfield 18) 3 16 := ⟨by decide +kernel, rfl⟩
theorem dX3_reasonNotToMeasure_16 : Dc cX3_reasonNotToMeasure 16 (.iload_n 1) 1 17 := ⟨by decide +kernel, rfl⟩
theorem dX3_reasonNotToMeasure_17 : Dc cX3_reasonNotToMeasure 17 (.invokevirtual 56) 3 20 := ⟨by decide +kernel, rfl⟩
theorem dX3_reasonNotToMeasure_20 : Dc cX3_reasonNotToMeasure 20 (.iconst (-1)) 1 21 := ⟨by decide +kernel, rfl⟩
theorem dX3_reasonNotToMeasure_21 : Dj cX3_reasonNotToMeasure 21 (.if_icmp .ne 5) 3 24 (5) 26 := ⟨by decide +kernel, rfl, by decide⟩
theorem dX3_reasonNotToMeasure_24 : Dc cX3_reasonNotToMeasure 24 (.iconst 1) 1 25 := ⟨by decide +kernel, rfl⟩
theorem dX3_reasonNotToMeasure_25 : Dc cX3_reasonNotToMeasure 25 (.ireturn) 1 26 := ⟨by decide +kernel, rfl⟩
theorem dX3_reasonNotToMeasure_26 : Dc cX3_reasonNotToMeasure 26 (.aload_n 0) 1 27 := ⟨by decide +kernel, rfl⟩
theorem dX3_reasonNotToMeasure_27 : Dc cX3_reasonNotToMeasure 27 (.getfield 18) 3 30 := ⟨by decide +kernel, rfl⟩
theorem dX3_reasonNotToMeasure_30 : Dc cX3_reasonNotToMeasure 30 (.aload_n 0) 1 31 := ⟨by decide +kernel, rfl⟩
theorem dX3_reasonNotToMeasure_31 : Dc cX3_reasonNotToMeasure 31 (.iload_n 1) 1 32 := ⟨by decide +kernel, rfl⟩
theorem dX3_reasonNotToMeasure_32 : Dc cX3_reasonNotToMeasure 32 (.invokevirtual 60) 3 35 := ⟨by decide +kernel, rfl⟩
theorem dX3_reasonNotToMeasure_35 : Dc cX3_reasonNotToMeasure 35 (.iload_n 1) 1 36 := ⟨by decide +kernel, rfl⟩
theorem dX3_reasonNotToMeasure_36 : Dc cX3_reasonNotToMeasure 36 (.invokevirtual 63) 3 39 := ⟨by decide +kernel, rfl⟩
theorem dX3_reasonNotToMeasure_39 : Dj cX3_reasonNotToMeasure 39 (.ifCond .eq 7) 3 42 (7) 46 := ⟨by decide +kernel, rfl, by decide⟩
theorem dX3_reasonNotToMeasure_42 : Dc cX3_reasonNotToMeasure 42 (.iconst 2) 1 43 := ⟨by decide +kernel, rfl⟩
theorem dX3_reasonNotToMeasure_43 : Dj cX3_reasonNotToMeasure 43 (.goto 4) 3 46 (4) 47 := ⟨by decide +kernel, rfl, by decide⟩
theorem dX3_reasonNotToMeasure_46 : Dc cX3_reasonNotToMeasure 46 (.iconst 0) 1 47 := ⟨by decide +kernel, rfl⟩
theorem dX3_reasonNotToMeasure_47 : Dc cX3_reasonNotToMeasure 47 (.ireturn) 1 48 := ⟨by decide +kernel, rfl⟩
def F_X3_reasonNotToMeasure (o : OM) (t0 : Nat) (v1 : Int32) : Option Int32 := bd (fun (_ : Unit) => bq (F_X3_readingAt o t0 v1) (fun r_1 => bq (F_X1_crosses o t0 r_1 v1) (fun r_2 => bd (fun (s_3 : Int32) => some s_3) (fun k47 => if r_2 = 0 then (k47 ((0 : Int32))) else (k47 ((2 : Int32))))))) (fun k26 => if (rd o 6 t0 0) < ((10 : Int32)) then (k26 ()) else (bq (F_X1_indexOf o t0 v1) (fun r_4 => if r_4 = ((-1 : Int32)) then (some ((1 : Int32))) else (k26 ()))))
abbrev rmX3_reasonNotToMeasure : Room := { frames := 2, cells := 0, slots := 0, locals := 43 }
set_option maxHeartbeats 4000000 in
set_option maxRecDepth 100000 in
theorem wX3_reasonNotToMeasure {G : Gd} {p : Program} {l : Launch} {e : Env} {s : State} {m : MethodId} {args : Array Value} {below : List Frame} {meth : Method} {c : Code} {o : OM} {H : Heap} {L0 : List Loc} {ls : Array Slot} {r : Int32} {t0 : Nat} {v1 : Int32} (C : Cx G RX3 cX3_reasonNotToMeasure 2 (some .int) p s m args meth c) (ht0 : okb 5 t0 = true) (P : Hp G o s H L0) (hl : lv_has ls 2 [(0, .ref (rA G 5 t0)), (1, .int v1)]) (hf : F_X3_reasonNotToMeasure o t0 v1 = some r) : W p l e rmX3_reasonNotToMeasure s m args below meth c H L0 0 0 (Qm G (some (.int r)) o rmX3_reasonNotToMeasure below args s) (F0 m 0 ls []) := by
  unfold F_X3_reasonNotToMeasure at hf
  refine r_aload_n C hl 0 rfl rfl dX3_reasonNotToMeasure_0 ?_
  refine gf_5_7 C P ht0 wd_113 dX3_reasonNotToMeasure_1 ?_
  refine gf_6_0 C P ht0 wd_63 dX3_reasonNotToMeasure_4 ?_
  refine r_bipush C (v := 10) (by decide) dX3_reasonNotToMeasure_7 ?_
  refine r_jn (fun k26 : Unit → Option Int32 => ∀ H1 L1 ls, Hp G o s H1 L1 → lv_has ls 2 [(0, .ref (rA G 5 t0)), (1, .int v1)] → k26 () = some r → W p l e rmX3_reasonNotToMeasure s m args below meth c H1 L1 0 0 (Qm G (some (.int r)) o rmX3_reasonNotToMeasure below args s) (F0 m 26 ls [])) hf ?_ (fun k26 j26 hf => ?_)
  · intro  H1 L1 ls  P hl hf
    refine r_aload_n C hl 0 rfl rfl dX3_reasonNotToMeasure_26 ?_
    refine gf_5_7 C P ht0 wd_113 dX3_reasonNotToMeasure_27 ?_
    refine r_aload_n C hl 0 rfl rfl dX3_reasonNotToMeasure_30 ?_
    refine r_iload_n C hl 1 rfl rfl dX3_reasonNotToMeasure_31 ?_
    refine r_qVi C P cf_X3_60 (rm := rmX3_readingAt) 5 t0 (fun _ _ => ⟨_, rfl⟩) rfl rfl ht0 [.int v1] [.ref (rA G 6 t0)] hf (fun _ h => ctX3_readingAt l G o t0 v1 ht0 h) ⟨rfl, rfl⟩ ⟨Nat.le_of_ble_eq_true rfl, Nat.le_of_ble_eq_true rfl⟩ ⟨Nat.le_of_ble_eq_true rfl, Nat.le_of_ble_eq_true rfl⟩ rfl rfl hl.1 (Nat.le_of_ble_eq_true rfl) dX3_reasonNotToMeasure_32 (fun r_1 H1 L1 P hf => ?_)
    refine r_iload_n C hl 1 rfl rfl dX3_reasonNotToMeasure_35 ?_
    refine r_qVi C P cf_X3_63 (rm := rmX1_crosses) 6 t0 (fun _ _ => ⟨_, rfl⟩) rfl rfl ht0 [.int r_1, .int v1] [] hf (fun _ h => ctX1_crosses l G o t0 r_1 v1 ht0 h) ⟨rfl, rfl⟩ ⟨Nat.le_of_ble_eq_true rfl, Nat.le_of_ble_eq_true rfl⟩ ⟨Nat.le_of_ble_eq_true rfl, Nat.le_of_ble_eq_true rfl⟩ rfl rfl hl.1 (Nat.le_of_ble_eq_true rfl) dX3_reasonNotToMeasure_36 (fun r_2 H1 L1 P hf => ?_)
    refine r_jn (fun k47 : Int32 → Option Int32 => ∀ (s_3 : Int32) H1 L1 ls, Hp G o s H1 L1 → lv_has ls 2 [] → k47 s_3 = some r → W p l e rmX3_reasonNotToMeasure s m args below meth c H1 L1 0 0 (Qm G (some (.int r)) o rmX3_reasonNotToMeasure below args s) (F0 m 47 ls [.int s_3])) hf ?_ (fun k47 j47 hf => ?_)
    · intro s_3 H1 L1 ls  P hl hf
      exact q_iret C P (rm := rmX3_reasonNotToMeasure) ⟨rfl, rfl⟩ dX3_reasonNotToMeasure_47 hf
    refine r_if_eq C dX3_reasonNotToMeasure_39 hf (fun hf => ?_) (fun hf => ?_)
    · refine r_iconst C (v := 0) (by decide) dX3_reasonNotToMeasure_46 ?_
      exact j47 ((0 : Int32)) _ _ _ P (lv_sub hl [] rfl) hf
    · refine r_iconst C (v := 2) (by decide) dX3_reasonNotToMeasure_42 ?_
      refine r_goto C dX3_reasonNotToMeasure_43 ?_
      exact j47 ((2 : Int32)) _ _ _ P (lv_sub hl [] rfl) hf
  refine r_icmp_lt C dX3_reasonNotToMeasure_9 hf (fun hf => ?_) (fun hf => ?_)
  · exact j26  _ _ _ P (lv_sub hl [0, 1] rfl) hf
  · refine r_aload_n C hl 0 rfl rfl dX3_reasonNotToMeasure_12 ?_
    refine gf_5_7 C P ht0 wd_113 dX3_reasonNotToMeasure_13 ?_
    refine r_iload_n C hl 1 rfl rfl dX3_reasonNotToMeasure_16 ?_
    refine r_qVi C P cf_X3_56 (rm := rmX1_indexOf) 6 t0 (fun _ _ => ⟨_, rfl⟩) rfl rfl ht0 [.int v1] [] hf (fun _ h => ctX1_indexOf l G o t0 v1 ht0 h) ⟨rfl, rfl⟩ ⟨Nat.le_of_ble_eq_true rfl, Nat.le_of_ble_eq_true rfl⟩ ⟨Nat.le_of_ble_eq_true rfl, Nat.le_of_ble_eq_true rfl⟩ rfl rfl hl.1 (Nat.le_of_ble_eq_true rfl) dX3_reasonNotToMeasure_17 (fun r_4 H1 L1 P hf => ?_)
    refine r_iconst C (v := -1) (by decide) dX3_reasonNotToMeasure_20 ?_
    refine r_icmp_ne C dX3_reasonNotToMeasure_21 hf (fun hf => ?_) (fun hf => ?_)
    · exact j26  _ _ _ P (lv_sub hl [0, 1] rfl) hf
    · refine r_iconst C (v := 1) (by decide) dX3_reasonNotToMeasure_24 ?_
      exact q_iret C P (rm := rmX3_reasonNotToMeasure) ⟨rfl, rfl⟩ dX3_reasonNotToMeasure_25 hf
theorem ctX3_reasonNotToMeasure (l : Launch) (G : Gd) (o : OM) (t0 : Nat) (v1 : Int32) (ht0 : okb 5 t0 = true) {r : Int32} (hf : F_X3_reasonNotToMeasure o t0 v1 = some r) : Ct l yX3_reasonNotToMeasure cX3_reasonNotToMeasure 2 (some .int) rmX3_reasonNotToMeasure G [.ref (rA G 5 t0), .int v1] o (some (.int r)) o := ct_of (by decide +kernel) (Nat.le_of_ble_eq_true rfl) (fun p e s m below meth c ls C P hl => wX3_reasonNotToMeasure C ht0 P hl hf)
theorem cf_X3_67 : CallF false RX3 67 yX1_dropDegree cX1_dropDegree 5 (some .boolean) 1 := ⟨wd_497, (by rw [if_neg (by decide)]; exact ⟨wd_498, wd_499⟩), wd_13, wd_500, by decide, by decide +kernel⟩
theorem cf_X3_71 : CallF false RX3 71 yX1_addLast cX1_addLast 4 none 3 := ⟨wd_514, (by rw [if_neg (by decide)]; exact ⟨wd_503, wd_504⟩), wd_13, wd_505, by decide, by decide +kernel⟩
theorem dX3_addPoint_0 : Dc cX3_addPoint 0 (.aload_n 0) 1 1 := ⟨by decide +kernel, rfl⟩
theorem dX3_addPoint_1 : Dc cX3_addPoint 1 (.getfield 18) 3 4 := ⟨by decide +kernel, rfl⟩
theorem dX3_addPoint_4 : Dc cX3_addPoint 4 (.iload_n 1) 1 5 := ⟨by decide +kernel, rfl⟩
theorem dX3_addPoint_5 : Dc cX3_addPoint 5 (.invokevirtual 67) 3 8 := ⟨by decide +kernel, rfl⟩
theorem dX3_addPoint_8 : Dc cX3_addPoint 8 (.pop) 1 9 := ⟨by decide +kernel, rfl⟩
theorem dX3_addPoint_9 : Dc cX3_addPoint 9 (.aload_n 0) 1 10 := ⟨by decide +kernel, rfl⟩
theorem dX3_addPoint_10 : Dc cX3_addPoint 10 (.getfield 18) 3 13 := ⟨by decide +kernel, rfl⟩
theorem dX3_addPoint_13 : Dc cX3_addPoint 13 (.aload_n 0) 1 14 := ⟨by decide +kernel, rfl⟩
theorem dX3_addPoint_14 : Dc cX3_addPoint 14 (.iload_n 1) 1 15 := ⟨by decide +kernel, rfl⟩
theorem dX3_addPoint_15 : Dc cX3_addPoint 15 (.invokevirtual 60) 3 18 := ⟨by decide +kernel, rfl⟩
theorem dX3_addPoint_18 : Dc cX3_addPoint 18 (.iload_n 1) 1 19 := ⟨by decide +kernel, rfl⟩
theorem dX3_addPoint_19 : Dc cX3_addPoint 19 (.iload_n 2) 1 20 := ⟨by decide +kernel, rfl⟩
theorem dX3_addPoint_20 : Dc cX3_addPoint 20 (.invokevirtual 71) 3 23 := ⟨by decide +kernel, rfl⟩
theorem dX3_addPoint_23 : Dc cX3_addPoint 23 (.return_) 1 24 := ⟨by decide +kernel, rfl⟩
def F_X3_addPoint (o : OM) (t0 : Nat) (v1 : Int32) (v2 : Int32) : Option (Unit × OM) := bn (F_X1_dropDegree o t0 v1) (fun r_1 o_2 => bq (F_X3_readingAt o_2 t0 v1) (fun r_3 => bn (F_X1_addLast o_2 t0 r_3 v1 v2) (fun _ o_5 => some ((), o_5))))
abbrev rmX3_addPoint : Room := { frames := 3, cells := 0, slots := 0, locals := 72 }
set_option maxHeartbeats 4000000 in
set_option maxRecDepth 100000 in
theorem wX3_addPoint {G : Gd} {p : Program} {l : Launch} {e : Env} {s : State} {m : MethodId} {args : Array Value} {below : List Frame} {meth : Method} {c : Code} {o : OM} {H : Heap} {L0 : List Loc} {ls : Array Slot} {r : Unit} {o9 : OM} {t0 : Nat} {v1 : Int32} {v2 : Int32} (C : Cx G RX3 cX3_addPoint 3 none p s m args meth c) (ht0 : okb 5 t0 = true) (P : Hp G o s H L0) (hl : lv_has ls 3 [(0, .ref (rA G 5 t0)), (1, .int v1), (2, .int v2)]) (hf : F_X3_addPoint o t0 v1 v2 = some (r, o9)) : W p l e rmX3_addPoint s m args below meth c H L0 0 0 (Qm G none o9 rmX3_addPoint below args s) (F0 m 0 ls []) := by
  unfold F_X3_addPoint at hf
  refine r_aload_n C hl 0 rfl rfl dX3_addPoint_0 ?_
  refine gf_5_7 C P ht0 wd_113 dX3_addPoint_1 ?_
  refine r_iload_n C hl 1 rfl rfl dX3_addPoint_4 ?_
  refine r_cVi C P cf_X3_67 (rm := rmX1_dropDegree) 6 t0 (fun _ _ => ⟨_, rfl⟩) rfl rfl ht0 [.int v1] [] hf (fun _ _ h => ctX1_dropDegree l G o t0 v1 ht0 h) ⟨rfl, rfl⟩ ⟨Nat.le_of_ble_eq_true rfl, Nat.le_of_ble_eq_true rfl⟩ ⟨Nat.le_of_ble_eq_true rfl, Nat.le_of_ble_eq_true rfl⟩ rfl rfl hl.1 (Nat.le_of_ble_eq_true rfl) dX3_addPoint_5 (fun r_1 o_2 H1 L1 P hf => ?_)
  refine r_pop C rfl dX3_addPoint_8 ?_
  refine r_aload_n C hl 0 rfl rfl dX3_addPoint_9 ?_
  refine gf_5_7 C P ht0 wd_113 dX3_addPoint_10 ?_
  refine r_aload_n C hl 0 rfl rfl dX3_addPoint_13 ?_
  refine r_iload_n C hl 1 rfl rfl dX3_addPoint_14 ?_
  refine r_qVi C P cf_X3_60 (rm := rmX3_readingAt) 5 t0 (fun _ _ => ⟨_, rfl⟩) rfl rfl ht0 [.int v1] [.ref (rA G 6 t0)] hf (fun _ h => ctX3_readingAt l G o_2 t0 v1 ht0 h) ⟨rfl, rfl⟩ ⟨Nat.le_of_ble_eq_true rfl, Nat.le_of_ble_eq_true rfl⟩ ⟨Nat.le_of_ble_eq_true rfl, Nat.le_of_ble_eq_true rfl⟩ rfl rfl hl.1 (Nat.le_of_ble_eq_true rfl) dX3_addPoint_15 (fun r_3 H1 L1 P hf => ?_)
  refine r_iload_n C hl 1 rfl rfl dX3_addPoint_18 ?_
  refine r_iload_n C hl 2 rfl rfl dX3_addPoint_19 ?_
  refine r_cVv C P cf_X3_71 (rm := rmX1_addLast) 6 t0 (fun _ _ => ⟨_, rfl⟩) rfl rfl ht0 [.int r_3, .int v1, .int v2] [] hf (fun _ _ h => ctX1_addLast l G o_2 t0 r_3 v1 v2 ht0 h) ⟨rfl, rfl⟩ ⟨Nat.le_of_ble_eq_true rfl, Nat.le_of_ble_eq_true rfl⟩ ⟨Nat.le_of_ble_eq_true rfl, Nat.le_of_ble_eq_true rfl⟩ rfl rfl hl.1 (Nat.le_of_ble_eq_true rfl) dX3_addPoint_20 (fun _ o_5 H1 L1 P hf => ?_)
  exact r_vret C P (rm := rmX3_addPoint) ⟨rfl, rfl⟩ dX3_addPoint_23 hf
theorem ctX3_addPoint (l : Launch) (G : Gd) (o : OM) (t0 : Nat) (v1 : Int32) (v2 : Int32) (ht0 : okb 5 t0 = true) {r : Unit} {o9 : OM} (hf : F_X3_addPoint o t0 v1 v2 = some (r, o9)) : Ct l yX3_addPoint cX3_addPoint 3 none rmX3_addPoint G [.ref (rA G 5 t0), .int v1, .int v2] o none o9 := ct_of (by decide +kernel) (Nat.le_of_ble_eq_true rfl) (fun p e s m below meth c ls C P hl => wX3_addPoint C ht0 P hl hf)
theorem cf_X5_253 : CallF false RX5 253 yX2_validPapers cX2_validPapers 3 (some .int) 0 := ⟨wd_342, (by rw [if_neg (by decide)]; exact ⟨wd_343, wd_344⟩), wd_11, wd_345, by decide, by decide +kernel⟩
theorem dX5_validShare_0 : Dc cX5_validShare 0 (.aload_n 0) 1 1 := ⟨by decide +kernel, rfl⟩
theorem dX5_validShare_1 : Dc cX5_validShare 1 (.getfield 10) 3 4 := ⟨by decide +kernel, rfl⟩
theorem dX5_validShare_4 : Dc cX5_validShare 4 (.getfield 61) 3 7 := ⟨by decide +kernel, rfl⟩
theorem dX5_validShare_7 : Dj cX5_validShare 7 (.ifCond .ne 5) 3 10 (5) 12 := ⟨by decide +kernel, rfl, by decide⟩
theorem dX5_validShare_10 : Dc cX5_validShare 10 (.dconst 1) 1 11 := ⟨by decide +kernel, rfl⟩
theorem dX5_validShare_11 : Dc cX5_validShare 11 (.dreturn) 1 12 := ⟨by decide +kernel, rfl⟩
theorem dX5_validShare_12 : Dc cX5_validShare 12 (.aload_n 0) 1 13 := ⟨by decide +kernel, rfl⟩
theorem dX5_validShare_13 : Dc cX5_validShare 13 (.getfield 10) 3 16 := ⟨by decide +kernel, rfl⟩
theorem dX5_validShare_16 : Dc cX5_validShare 16 (.invokevirtual 253) 3 19 := ⟨by decide +kernel, rfl⟩
theorem dX5_validShare_19 : Dc cX5_validShare 19 (.i2d) 1 20 := ⟨by decide +kernel, rfl⟩
theorem dX5_validShare_20 : Dc cX5_validShare 20 (.aload_n 0) 1 21 := ⟨by decide +kernel, rfl⟩
theorem dX5_validShare_21 : Dc cX5_validShare 21 (.getfield 10) 3 24 := ⟨by decide +kernel, rfl⟩
theorem dX5_validShare_24 : Dc cX5_validShare 24 (.getfield 61) 3 27 := ⟨by decide +kernel, rfl⟩
theorem dX5_validShare_27 : Dc cX5_validShare 27 (.i2d) 1 28 := ⟨by decide +kernel, rfl⟩
theorem dX5_validShare_28 : Dc cX5_validShare 28 (.ddiv) 1 29 := ⟨by decide +kernel, rfl⟩
theorem dX5_validShare_29 : Dc cX5_validShare 29 (.dreturn) 1 30 := ⟨by decide +kernel, rfl⟩
def F_X5_validShare (o : OM) : Option UInt64 := if (rd o 1 0 2) = 0 then (some FP.dconst1) else (bq (F_X2_validPapers o 0) (fun r_1 => bd (FP.ddiv (FP.i2d r_1) (FP.i2d (rd o 1 0 2))) (fun w_2 : UInt64 => grd (n64 w_2) (some w_2))))
abbrev rmX5_validShare : Room := { frames := 2, cells := 0, slots := 0, locals := 43 }
set_option maxHeartbeats 4000000 in
set_option maxRecDepth 100000 in
theorem wX5_validShare {G : Gd} {p : Program} {l : Launch} {e : Env} {s : State} {m : MethodId} {args : Array Value} {below : List Frame} {meth : Method} {c : Code} {o : OM} {H : Heap} {L0 : List Loc} {ls : Array Slot} {r : UInt64}  (C : Cx G RX5 cX5_validShare 1 (some .double) p s m args meth c)  (P : Hp G o s H L0) (hl : lv_has ls 1 [(0, .ref (rA G 0 0))]) (hf : F_X5_validShare o  = some r) : W p l e rmX5_validShare s m args below meth c H L0 0 0 (Qm G (some (.double r)) o rmX5_validShare below args s) (F0 m 0 ls []) := by
  unfold F_X5_validShare at hf
  refine r_aload_n C hl 0 rfl rfl dX5_validShare_0 ?_
  refine gf_0_0 C P rfl wd_208 dX5_validShare_1 ?_
  refine gf_1_2 C P rfl wd_138 dX5_validShare_4 ?_
  refine r_if_ne C dX5_validShare_7 hf (fun hf => ?_) (fun hf => ?_)
  · refine r_aload_n C hl 0 rfl rfl dX5_validShare_12 ?_
    refine gf_0_0 C P rfl wd_208 dX5_validShare_13 ?_
    refine r_qVi C P cf_X5_253 (rm := rmX2_validPapers) 1 0 (fun _ _ => ⟨_, rfl⟩) rfl rfl rfl [] [] hf (fun _ h => ctX2_validPapers l G o 0 rfl h) ⟨rfl, rfl⟩ ⟨Nat.le_of_ble_eq_true rfl, Nat.le_of_ble_eq_true rfl⟩ ⟨Nat.le_of_ble_eq_true rfl, Nat.le_of_ble_eq_true rfl⟩ rfl rfl hl.1 (Nat.le_of_ble_eq_true rfl) dX5_validShare_16 (fun r_1 H1 L1 P hf => ?_)
    refine r_i2d C dX5_validShare_19 ?_
    refine r_aload_n C hl 0 rfl rfl dX5_validShare_20 ?_
    refine gf_0_0 C P rfl wd_208 dX5_validShare_21 ?_
    refine gf_1_2 C P rfl wd_138 dX5_validShare_24 ?_
    refine r_i2d C dX5_validShare_27 ?_
    refine r_ddiv C dX5_validShare_28 hf (fun w_2 hf => ?_)
    exact q_dret C P (rm := rmX5_validShare) ⟨rfl, rfl⟩ dX5_validShare_29 hf
  · refine r_dconst1 C dX5_validShare_10 ?_
    exact q_dret C P (rm := rmX5_validShare) ⟨rfl, rfl⟩ dX5_validShare_11 hf
theorem ctX5_validShare (l : Launch) (G : Gd) (o : OM)   {r : UInt64} (hf : F_X5_validShare o  = some r) : Ct l yX5_validShare cX5_validShare 1 (some .double) rmX5_validShare G [.ref (rA G 0 0)] o (some (.double r)) o := ct_of (by decide +kernel) (Nat.le_of_ble_eq_true rfl) (fun p e s m below meth c ls C P hl => wX5_validShare C  P hl hf)
theorem dX5_isWithin_0 : Dc cX5_isWithin 0 (.iload_n 0) 1 1 := ⟨by decide +kernel, rfl⟩
theorem dX5_isWithin_1 : Dc cX5_isWithin 1 (.iload_n 1) 1 2 := ⟨by decide +kernel, rfl⟩
theorem dX5_isWithin_2 : Dj cX5_isWithin 2 (.if_icmp .lt 12) 3 5 (12) 14 := ⟨by decide +kernel, rfl, by decide⟩
theorem dX5_isWithin_5 : Dc cX5_isWithin 5 (.iload_n 0) 1 6 := ⟨by decide +kernel, rfl⟩
theorem dX5_isWithin_6 : Dc cX5_isWithin 6 (.iload_n 2) 1 7 := ⟨by decide +kernel, rfl⟩
theorem dX5_isWithin_7 : Dj cX5_isWithin 7 (.if_icmp .gt 7) 3 10 (7) 14 := ⟨by decide +kernel, rfl, by decide⟩
theorem dX5_isWithin_10 : Dc cX5_isWithin 10 (.iconst 1) 1 11 := ⟨by decide +kernel, rfl⟩
theorem dX5_isWithin_11 : Dj cX5_isWithin 11 (.goto 4) 3 14 (4) 15 := ⟨by decide +kernel, rfl, by decide⟩
theorem dX5_isWithin_14 : Dc cX5_isWithin 14 (.iconst 0) 1 15 := ⟨by decide +kernel, rfl⟩
theorem dX5_isWithin_15 : Dc cX5_isWithin 15 (.ireturn) 1 16 := ⟨by decide +kernel, rfl⟩
def F_X5_isWithin (o : OM) (v0 : Int32) (v1 : Int32) (v2 : Int32) : Option Int32 := bd (fun (s_1 : Int32) => grd (isZ s_1) (some s_1)) (fun k15 => bd (fun (_ : Unit) => k15 ((0 : Int32))) (fun k14 => if v0 < v1 then (k14 ()) else (if v2 < v0 then (k14 ()) else (k15 ((1 : Int32))))))
abbrev rmX5_isWithin : Room := { frames := 0, cells := 0, slots := 0, locals := 0 }
set_option maxHeartbeats 4000000 in
set_option maxRecDepth 100000 in
theorem wX5_isWithin {G : Gd} {p : Program} {l : Launch} {e : Env} {s : State} {m : MethodId} {args : Array Value} {below : List Frame} {meth : Method} {c : Code} {o : OM} {H : Heap} {L0 : List Loc} {ls : Array Slot} {r : Int32} {v0 : Int32} {v1 : Int32} {v2 : Int32} (C : Cx G RX5 cX5_isWithin 3 (some .boolean) p s m args meth c)  (P : Hp G o s H L0) (hl : lv_has ls 3 [(0, .int v0), (1, .int v1), (2, .int v2)]) (hf : F_X5_isWithin o v0 v1 v2 = some r) : W p l e rmX5_isWithin s m args below meth c H L0 0 0 (Qm G (some (.int r)) o rmX5_isWithin below args s) (F0 m 0 ls []) := by
  unfold F_X5_isWithin at hf
  refine r_iload_n C hl 0 rfl rfl dX5_isWithin_0 ?_
  refine r_iload_n C hl 1 rfl rfl dX5_isWithin_1 ?_
  refine r_jn (fun k15 : Int32 → Option Int32 => ∀ (s_1 : Int32) H1 L1 ls, Hp G o s H1 L1 → lv_has ls 3 [] → k15 s_1 = some r → W p l e rmX5_isWithin s m args below meth c H1 L1 0 0 (Qm G (some (.int r)) o rmX5_isWithin below args s) (F0 m 15 ls [.int s_1])) hf ?_ (fun k15 j15 hf => ?_)
  · intro s_1 H1 L1 ls  P hl hf
    exact q_zret C P (rm := rmX5_isWithin) ⟨rfl, rfl⟩ dX5_isWithin_15 hf
  refine r_jn (fun k14 : Unit → Option Int32 => ∀ H1 L1 ls, Hp G o s H1 L1 → lv_has ls 3 [] → k14 () = some r → W p l e rmX5_isWithin s m args below meth c H1 L1 0 0 (Qm G (some (.int r)) o rmX5_isWithin below args s) (F0 m 14 ls [])) hf ?_ (fun k14 j14 hf => ?_)
  · intro  H1 L1 ls  P hl hf
    refine r_iconst C (v := 0) (by decide) dX5_isWithin_14 ?_
    exact j15 ((0 : Int32)) _ _ _ P (lv_sub hl [] rfl) hf
  refine r_icmp_lt C dX5_isWithin_2 hf (fun hf => ?_) (fun hf => ?_)
  · exact j14  _ _ _ P (lv_sub hl [] rfl) hf
  · refine r_iload_n C hl 0 rfl rfl dX5_isWithin_5 ?_
    refine r_iload_n C hl 2 rfl rfl dX5_isWithin_6 ?_
    refine r_icmp_gt C dX5_isWithin_7 hf (fun hf => ?_) (fun hf => ?_)
    · exact j14  _ _ _ P (lv_sub hl [] rfl) hf
    · refine r_iconst C (v := 1) (by decide) dX5_isWithin_10 ?_
      refine r_goto C dX5_isWithin_11 ?_
      exact j15 ((1 : Int32)) _ _ _ P (lv_sub hl [] rfl) hf
theorem ctX5_isWithin (l : Launch) (G : Gd) (o : OM) (v0 : Int32) (v1 : Int32) (v2 : Int32)  {r : Int32} (hf : F_X5_isWithin o v0 v1 v2 = some r) : Ct l yX5_isWithin cX5_isWithin 3 (some .boolean) rmX5_isWithin G [.int v0, .int v1, .int v2] o (some (.int r)) o := ct_of (by decide +kernel) (Nat.le_of_ble_eq_true rfl) (fun p e s m below meth c ls C P hl => wX5_isWithin C  P hl hf)
