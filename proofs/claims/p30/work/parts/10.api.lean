theorem cf_X5_33 : CallF true RX5 33 yX5_isWithin cX5_isWithin 3 (some .boolean) 3 := ⟨wd_319, (by rw [if_pos rfl]; exact wd_320), wd_10, wd_321, by decide, by decide +kernel⟩
theorem cf_X5_44 : CallF false RX5 44 yX2_hasRoom cX2_hasRoom 1 (some .boolean) 0 := ⟨wd_374, (by rw [if_neg (by decide)]; exact ⟨wd_375, wd_376⟩), wd_11, wd_377, by decide, by decide +kernel⟩
theorem cf_X5_53 : CallF false RX5 53 yX0_push cX0_push 2 none 1 := ⟨wd_379, (by rw [if_neg (by decide)]; exact ⟨wd_380, wd_381⟩), wd_14, wd_382, by decide, by decide +kernel⟩
theorem cf_X5_57 : CallF false RX5 57 yX2_addThermometer cX2_addThermometer 4 none 3 := ⟨wd_383, (by rw [if_neg (by decide)]; exact ⟨wd_384, wd_385⟩), wd_11, wd_386, by decide, by decide +kernel⟩
theorem dX5_make_0 : Dc cX5_make 0 (.iload_n 1) 1 1 := ⟨by decide +kernel, rfl⟩
theorem dX5_make_1 : Dc cX5_make 1 (.bipush (-50)) 2 3 := ⟨by decide +kernel, rfl⟩
theorem dX5_make_3 : Dc cX5_make 3 (.bipush 50) 2 5 := ⟨by decide +kernel, rfl⟩
theorem dX5_make_5 : Dc cX5_make 5 (.invokestatic 33) 3 8 := ⟨by decide +kernel, rfl⟩
theorem dX5_make_8 : Dj cX5_make 8 (.ifCond .eq 23) 3 11 (23) 31 := ⟨by decide +kernel, rfl, by decide⟩
theorem dX5_make_11 : Dc cX5_make 11 (.iload_n 2) 1 12 := ⟨by decide +kernel, rfl⟩
theorem dX5_make_12 : Dc cX5_make 12 (.bipush (-50)) 2 14 := ⟨by decide +kernel, rfl⟩
theorem dX5_make_14 : Dc cX5_make 14 (.bipush 50) 2 16 := ⟨by decide +kernel, rfl⟩
theorem dX5_make_16 : Dc cX5_make 16 (.invokestatic 33) 3 19 := ⟨by decide +kernel, rfl⟩
theorem dX5_make_19 : Dj cX5_make 19 (.ifCond .eq 12) 3 22 (12) 31 := ⟨by decide +kernel, rfl, by decide⟩
theorem dX5_make_22 : Dc cX5_make 22 (.iload_n 3) 1 23 := ⟨by decide +kernel, rfl⟩
theorem dX5_make_23 : Dc cX5_make 23 (.iconst 0) 1 24 := ⟨by decide +kernel, rfl⟩
theorem dX5_make_24 : Dc cX5_make 24 (.iconst 3) 1 25 := ⟨by decide +kernel, rfl⟩
theorem dX5_make_25 : Dc cX5_make 25 (.invokestatic 33) 3 28 := ⟨by decide +kernel, rfl⟩
theorem dX5_make_28 : Dj cX5_make 28 (.ifCond .ne 13) 3 31 (13) 41 := ⟨by decide +kernel, rfl, by decide⟩
theorem dX5_make_41 : Dc cX5_make 41 (.aload_n 0) 1 42 := ⟨by decide +kernel, rfl⟩
theorem dX5_make_42 : Dc cX5_make 42 (.getfield 10) 3 45 := ⟨by decide +kernel, rfl⟩
theorem dX5_make_45 : Dc cX5_make 45 (.invokevirtual 44) 3 48 := ⟨by decide +kernel, rfl⟩
theorem dX5_make_48 : Dj cX5_make 48 (.ifCond .ne 13) 3 51 (13) 61 := ⟨by decide +kernel, rfl, by decide⟩
theorem dX5_make_61 : Dc cX5_make 61 (.aload_n 0) 1 62 := ⟨by decide +kernel, rfl⟩
theorem dX5_make_62 : Dc cX5_make 62 (.getfield 22) 3 65 := ⟨by decide +kernel, rfl⟩
theorem dX5_make_65 : Dc cX5_make 65 (.aload_n 0) 1 66 := ⟨by decide +kernel, rfl⟩
theorem dX5_make_66 : Dc cX5_make 66 (.getfield 10) 3 69 := ⟨by decide +kernel, rfl⟩
theorem dX5_make_69 : Dc cX5_make 69 (.invokevirtual 53) 3 72 := ⟨by decide +kernel, rfl⟩
theorem dX5_make_72 : Dc cX5_make 72 (.aload_n 0) 1 73 := ⟨by decide +kernel, rfl⟩
theorem dX5_make_73 : Dc cX5_make 73 (.getfield 10) 3 76 := ⟨by decide +kernel, rfl⟩
theorem dX5_make_76 : Dc cX5_make 76 (.iload_n 1) 1 77 := ⟨by decide +kernel, rfl⟩
theorem dX5_make_77 : Dc cX5_make 77 (.iload_n 2) 1 78 := ⟨by decide +kernel, rfl⟩
theorem dX5_make_78 : Dc cX5_make 78 (.iload_n 3) 1 79 := ⟨by decide +kernel, rfl⟩
theorem dX5_make_79 : Dc cX5_make 79 (.invokevirtual 57) 3 82 := ⟨by decide +kernel, rfl⟩
theorem dX5_make_82 : Dc cX5_make 82 (.aload_n 0) 1 83 := ⟨by decide +kernel, rfl⟩
theorem dX5_make_83 : Dc cX5_make 83 (.getfield 10) 3 86 := ⟨by decide +kernel, rfl⟩
theorem dX5_make_86 : Dc cX5_make 86 (.getfield 61) 3 89 := ⟨by decide +kernel, rfl⟩
theorem dX5_make_89 : Dc cX5_make 89 (.iconst 1) 1 90 := ⟨by decide +kernel, rfl⟩
theorem dX5_make_90 : Dc cX5_make 90 (.isub) 1 91 := ⟨by decide +kernel, rfl⟩
theorem dX5_make_91 : Dc cX5_make 91 (.ireturn) 1 92 := ⟨by decide +kernel, rfl⟩
theorem eX5_make_31 : decode cX5_make 31 = .ok (.new 37, 3) := by decide +kernel
theorem eX5_make_34 : decode cX5_make 34 = .ok (.dup, 1) := by decide +kernel
theorem eX5_make_35 : decode cX5_make 35 = .ok (.ldc 39, 2) := by decide +kernel
theorem eX5_make_37 : decode cX5_make 37 = .ok (.invokespecial 41, 3) := by decide +kernel
theorem eX5_make_40 : decode cX5_make 40 = .ok (.athrow, 1) := by decide +kernel
theorem eX5_make_51 : decode cX5_make 51 = .ok (.new 48, 3) := by decide +kernel
theorem eX5_make_54 : decode cX5_make 54 = .ok (.dup, 1) := by decide +kernel
theorem eX5_make_55 : decode cX5_make 55 = .ok (.ldc 50, 2) := by decide +kernel
theorem eX5_make_57 : decode cX5_make 57 = .ok (.invokespecial 52, 3) := by decide +kernel
theorem eX5_make_60 : decode cX5_make 60 = .ok (.athrow, 1) := by decide +kernel
def F_X5_make (o : OM) (v1 : Int32) (v2 : Int32) (v3 : Int32) : Option ((Nat × Int32) × OM) := bq (F_X5_isWithin o v1 ((-50 : Int32)) ((50 : Int32))) (fun r_1 => bd (fun (_ : Unit) => some ((1, 0), o)) (fun k31 => if r_1 = 0 then (k31 ()) else (bq (F_X5_isWithin o v2 ((-50 : Int32)) ((50 : Int32))) (fun r_2 => if r_2 = 0 then (k31 ()) else (bq (F_X5_isWithin o v3 ((0 : Int32)) ((3 : Int32))) (fun r_3 => if r_3 = 0 then (k31 ()) else (bq (F_X2_hasRoom o 0) (fun r_4 => if r_4 = 0 then (some ((2, 0), o)) else (bn (F_X0_push o 0) (fun _ o_6 => bn (F_X2_addThermometer o_6 0 v1 v2 v3) (fun _ o_8 => some ((0, ((rd o_8 1 0 2) - ((1 : Int32)))), o_8))))))))))))
abbrev rmX5_make : Room := { frames := 6, cells := 0, slots := 0, locals := 125 }
set_option maxHeartbeats 4000000 in
set_option maxRecDepth 100000 in
theorem wX5_make {G : Gd} {p : Program} {l : Launch} {e : Env} {s : State} {m : MethodId} {args : Array Value} {below : List Frame} {meth : Method} {c : Code} {o : OM} {H : Heap} {L0 : List Loc} {ls : Array Slot} {r : (Nat × Int32)} {o9 : OM} {v1 : Int32} {v2 : Int32} {v3 : Int32} (C : Cx G RX5 cX5_make 4 (some .int) p s m args meth c) (E0 : Cex c) (X : XF G s) (hl9 : l.stackTraces = false)  (P : Hp G o s H L0) (hl : lv_has ls 4 [(0, .ref (rA G 0 0)), (1, .int v1), (2, .int v2), (3, .int v3)]) (hf : F_X5_make o v1 v2 v3 = some (r, o9)) : W p l e (rmx rmX5_make r.1) s m args below meth c H L0 0 0 (Qxm G r.1 (some (.int r.2)) o9 below args s) (F0 m 0 ls []) := by
  unfold F_X5_make at hf
  refine r_iload_n C hl 1 rfl rfl dX5_make_0 ?_
  refine r_bipush C (v := -50) (by decide) dX5_make_1 ?_
  refine r_bipush C (v := 50) (by decide) dX5_make_3 ?_
  refine r_qSi C P cf_X5_33 (rm := rmX5_isWithin) [.int v1, .int ((-50 : Int32)), .int ((50 : Int32))] [] hf (fun _ h => ctX5_isWithin l G o v1 ((-50 : Int32)) ((50 : Int32)) h) ⟨rfl, rfl⟩ ⟨Nat.le_of_ble_eq_true rfl, Nat.le_of_ble_eq_true rfl⟩ ⟨Nat.zero_le _, Nat.zero_le _⟩ rfl rfl hl.1 (Nat.le_of_ble_eq_true rfl) dX5_make_5 (fun r_1 H1 L1 P hf => ?_)
  refine r_jn (fun k31 : Unit → Option ((Nat × Int32) × OM) => ∀ H1 L1 ls, Hp G o s H1 L1 → lv_has ls 4 [] → k31 () = some (r, o9) → W p l e (rmx rmX5_make r.1) s m args below meth c H1 L1 0 0 (Qxm G r.1 (some (.int r.2)) o9 below args s) (F0 m 31 ls [])) hf ?_ (fun k31 j31 hf => ?_)
  · intro  H1 L1 ls  P hl hf
    exact x_throw C E0 X hl9 P (E := "java/lang/IllegalArgumentException") (tx := "zero, gain or batch is out of range") (ik := 37) (is := 39) (ic := 41) ⟨rfl, by decide, by decide, wd_322, wd_19, th_1a, th_1b, th_1c, by decide⟩ (rm := rmX5_make) ⟨Nat.le_of_ble_eq_true rfl, Nat.le_of_ble_eq_true rfl⟩ hl.1 eX5_make_31 eX5_make_34 eX5_make_35 eX5_make_37 eX5_make_40 hf
  refine r_if_eq C dX5_make_8 hf (fun hf => ?_) (fun hf => ?_)
  · exact j31  _ _ _ P (lv_sub hl [] rfl) hf
  · refine r_iload_n C hl 2 rfl rfl dX5_make_11 ?_
    refine r_bipush C (v := -50) (by decide) dX5_make_12 ?_
    refine r_bipush C (v := 50) (by decide) dX5_make_14 ?_
    refine r_qSi C P cf_X5_33 (rm := rmX5_isWithin) [.int v2, .int ((-50 : Int32)), .int ((50 : Int32))] [] hf (fun _ h => ctX5_isWithin l G o v2 ((-50 : Int32)) ((50 : Int32)) h) ⟨rfl, rfl⟩ ⟨Nat.le_of_ble_eq_true rfl, Nat.le_of_ble_eq_true rfl⟩ ⟨Nat.zero_le _, Nat.zero_le _⟩ rfl rfl hl.1 (Nat.le_of_ble_eq_true rfl) dX5_make_16 (fun r_2 H1 L1 P hf => ?_)
    refine r_if_eq C dX5_make_19 hf (fun hf => ?_) (fun hf => ?_)
    · exact j31  _ _ _ P (lv_sub hl [] rfl) hf
    · refine r_iload_n C hl 3 rfl rfl dX5_make_22 ?_
      refine r_iconst C (v := 0) (by decide) dX5_make_23 ?_
      refine r_iconst C (v := 3) (by decide) dX5_make_24 ?_
      refine r_qSi C P cf_X5_33 (rm := rmX5_isWithin) [.int v3, .int ((0 : Int32)), .int ((3 : Int32))] [] hf (fun _ h => ctX5_isWithin l G o v3 ((0 : Int32)) ((3 : Int32)) h) ⟨rfl, rfl⟩ ⟨Nat.le_of_ble_eq_true rfl, Nat.le_of_ble_eq_true rfl⟩ ⟨Nat.zero_le _, Nat.zero_le _⟩ rfl rfl hl.1 (Nat.le_of_ble_eq_true rfl) dX5_make_25 (fun r_3 H1 L1 P hf => ?_)
      refine r_if_ne C dX5_make_28 hf (fun hf => ?_) (fun hf => ?_)
      · refine r_aload_n C hl 0 rfl rfl dX5_make_41 ?_
        refine gf_0_0 C P rfl wd_208 dX5_make_42 ?_
        refine r_qVi C P cf_X5_44 (rm := rmX2_hasRoom) 1 0 (fun _ _ => ⟨_, rfl⟩) rfl rfl rfl [] [] hf (fun _ h => ctX2_hasRoom l G o 0 rfl h) ⟨rfl, rfl⟩ ⟨Nat.le_of_ble_eq_true rfl, Nat.le_of_ble_eq_true rfl⟩ ⟨Nat.zero_le _, Nat.zero_le _⟩ rfl rfl hl.1 (Nat.le_of_ble_eq_true rfl) dX5_make_45 (fun r_4 H1 L1 P hf => ?_)
        refine r_if_ne C dX5_make_48 hf (fun hf => ?_) (fun hf => ?_)
        · refine r_aload_n C hl 0 rfl rfl dX5_make_61 ?_
          refine gf_0_2 C P rfl wd_210 dX5_make_62 ?_
          refine r_aload_n C hl 0 rfl rfl dX5_make_65 ?_
          refine gf_0_0 C P rfl wd_208 dX5_make_66 ?_
          refine r_cVv C P cf_X5_53 (rm := rmX0_push) 14 0 (fun _ _ => ⟨_, rfl⟩) rfl rfl rfl [.ref (rA G 1 0)] [] hf (fun _ _ h => ctX0_push l G o 0 rfl h) ⟨rfl, rfl⟩ ⟨Nat.le_of_ble_eq_true rfl, Nat.le_of_ble_eq_true rfl⟩ ⟨Nat.zero_le _, Nat.zero_le _⟩ rfl rfl hl.1 (Nat.le_of_ble_eq_true rfl) dX5_make_69 (fun _ o_6 H1 L1 P hf => ?_)
          refine r_aload_n C hl 0 rfl rfl dX5_make_72 ?_
          refine gf_0_0 C P rfl wd_208 dX5_make_73 ?_
          refine r_iload_n C hl 1 rfl rfl dX5_make_76 ?_
          refine r_iload_n C hl 2 rfl rfl dX5_make_77 ?_
          refine r_iload_n C hl 3 rfl rfl dX5_make_78 ?_
          refine r_cVv C P cf_X5_57 (rm := rmX2_addThermometer) 1 0 (fun _ _ => ⟨_, rfl⟩) rfl rfl rfl [.int v1, .int v2, .int v3] [] hf (fun _ _ h => ctX2_addThermometer l G o_6 0 v1 v2 v3 rfl h) ⟨rfl, rfl⟩ ⟨Nat.le_of_ble_eq_true rfl, Nat.le_of_ble_eq_true rfl⟩ ⟨Nat.zero_le _, Nat.zero_le _⟩ rfl rfl hl.1 (Nat.le_of_ble_eq_true rfl) dX5_make_79 (fun _ o_8 H1 L1 P hf => ?_)
          refine r_aload_n C hl 0 rfl rfl dX5_make_82 ?_
          refine gf_0_0 C P rfl wd_208 dX5_make_83 ?_
          refine gf_1_2 C P rfl wd_138 dX5_make_86 ?_
          refine r_iconst C (v := 1) (by decide) dX5_make_89 ?_
          refine r_isub C dX5_make_90 ?_
          exact x_iret C P dX5_make_91 hf
        · exact x_throw C E0 X hl9 P (E := "java/lang/IllegalStateException") (tx := "there are 6 thermometers") (ik := 48) (is := 50) (ic := 52) ⟨rfl, by decide, by decide, wd_227, wd_20, th_2a, th_2b, th_2c, by decide⟩ (rm := rmX5_make) ⟨Nat.le_of_ble_eq_true rfl, Nat.le_of_ble_eq_true rfl⟩ hl.1 eX5_make_51 eX5_make_54 eX5_make_55 eX5_make_57 eX5_make_60 hf
      · exact j31  _ _ _ P (lv_sub hl [] rfl) hf
theorem ctX5_make (l : Launch) (G : Gd) (hl9 : l.stackTraces = false) (o : OM) (v1 : Int32) (v2 : Int32) (v3 : Int32)  {r : (Nat × Int32)} {o9 : OM} (hf : F_X5_make o v1 v2 v3 = some (r, o9)) : Cte l yX5_make cX5_make 4 (some .int) rmX5_make G [.ref (rA G 0 0), .int v1, .int v2, .int v3] o r.1 (some (.int r.2)) o9 := cte_of (by decide +kernel) (Nat.le_of_ble_eq_true rfl) (fun p e s m below meth c ls C E0 X P hl => wX5_make C E0 X hl9  P hl hf)
theorem cf_X5_303 : CallF false RX5 303 yX2_has cX2_has 2 (some .boolean) 1 := ⟨wd_404, (by rw [if_neg (by decide)]; exact ⟨wd_405, wd_406⟩), wd_11, wd_407, by decide, by decide +kernel⟩
theorem dX5_needThermometer_0 : Dc cX5_needThermometer 0 (.aload_n 0) 1 1 := ⟨by decide +kernel, rfl⟩
theorem dX5_needThermometer_1 : Dc cX5_needThermometer 1 (.getfield 10) 3 4 := ⟨by decide +kernel, rfl⟩
theorem dX5_needThermometer_4 : Dc cX5_needThermometer 4 (.iload_n 1) 1 5 := ⟨by decide +kernel, rfl⟩
theorem dX5_needThermometer_5 : Dc cX5_needThermometer 5 (.invokevirtual 303) 3 8 := ⟨by decide +kernel, rfl⟩
theorem dX5_needThermometer_8 : Dj cX5_needThermometer 8 (.ifCond .ne 14) 3 11 (14) 22 := ⟨by decide +kernel, rfl, by decide⟩
theorem dX5_needThermometer_22 : Dc cX5_needThermometer 22 (.return_) 1 23 := ⟨by decide +kernel, rfl⟩
theorem eX5_needThermometer_11 : decode cX5_needThermometer 11 = .ok (.new 103, 3) := by decide +kernel
theorem eX5_needThermometer_14 : decode cX5_needThermometer 14 = .ok (.dup, 1) := by decide +kernel
theorem eX5_needThermometer_15 : decode cX5_needThermometer 15 = .ok (.ldc_w 306, 3) := by decide +kernel
theorem eX5_needThermometer_18 : decode cX5_needThermometer 18 = .ok (.invokespecial 107, 3) := by decide +kernel
theorem eX5_needThermometer_21 : decode cX5_needThermometer 21 = .ok (.athrow, 1) := by decide +kernel
def F_X5_needThermometer (o : OM) (v1 : Int32) : Option ((Nat × Unit) × OM) := bq (F_X2_has o 0 v1) (fun r_1 => if r_1 = 0 then (some ((3, ()), o)) else (some ((0, ()), o)))
abbrev rmX5_needThermometer : Room := { frames := 6, cells := 0, slots := 0, locals := 82 }
set_option maxHeartbeats 4000000 in
set_option maxRecDepth 100000 in
theorem wX5_needThermometer {G : Gd} {p : Program} {l : Launch} {e : Env} {s : State} {m : MethodId} {args : Array Value} {below : List Frame} {meth : Method} {c : Code} {o : OM} {H : Heap} {L0 : List Loc} {ls : Array Slot} {r : (Nat × Unit)} {o9 : OM} {v1 : Int32} (C : Cx G RX5 cX5_needThermometer 2 none p s m args meth c) (E0 : Cex c) (X : XF G s) (hl9 : l.stackTraces = false)  (P : Hp G o s H L0) (hl : lv_has ls 2 [(0, .ref (rA G 0 0)), (1, .int v1)]) (hf : F_X5_needThermometer o v1 = some (r, o9)) : W p l e (rmx rmX5_needThermometer r.1) s m args below meth c H L0 0 0 (Qxm G r.1 none o9 below args s) (F0 m 0 ls []) := by
  unfold F_X5_needThermometer at hf
  refine r_aload_n C hl 0 rfl rfl dX5_needThermometer_0 ?_
  refine gf_0_0 C P rfl wd_208 dX5_needThermometer_1 ?_
  refine r_iload_n C hl 1 rfl rfl dX5_needThermometer_4 ?_
  refine r_qVi C P cf_X5_303 (rm := rmX2_has) 1 0 (fun _ _ => ⟨_, rfl⟩) rfl rfl rfl [.int v1] [] hf (fun _ h => ctX2_has l G o 0 v1 rfl h) ⟨rfl, rfl⟩ ⟨Nat.le_of_ble_eq_true rfl, Nat.le_of_ble_eq_true rfl⟩ ⟨Nat.zero_le _, Nat.zero_le _⟩ rfl rfl hl.1 (Nat.le_of_ble_eq_true rfl) dX5_needThermometer_5 (fun r_1 H1 L1 P hf => ?_)
  refine r_if_ne C dX5_needThermometer_8 hf (fun hf => ?_) (fun hf => ?_)
  · exact x_vret C P dX5_needThermometer_22 hf
  · exact x_throwW C E0 X hl9 P (E := "java/lang/IndexOutOfBoundsException") (tx := "no such thermometer") (ik := 103) (is := 306) (ic := 107) ⟨rfl, by decide, by decide, wd_408, wd_22, th_3a, th_3b, th_3c, by decide⟩ (rm := rmX5_needThermometer) ⟨Nat.le_of_ble_eq_true rfl, Nat.le_of_ble_eq_true rfl⟩ hl.1 eX5_needThermometer_11 eX5_needThermometer_14 eX5_needThermometer_15 eX5_needThermometer_18 eX5_needThermometer_21 hf
theorem ctX5_needThermometer (l : Launch) (G : Gd) (hl9 : l.stackTraces = false) (o : OM) (v1 : Int32)  {r : (Nat × Unit)} {o9 : OM} (hf : F_X5_needThermometer o v1 = some (r, o9)) : Cte l yX5_needThermometer cX5_needThermometer 2 none rmX5_needThermometer G [.ref (rA G 0 0), .int v1] o r.1 none o9 := cte_of (by decide +kernel) (Nat.le_of_ble_eq_true rfl) (fun p e s m below meth c ls C E0 X P hl => wX5_needThermometer C E0 X hl9  P hl hf)
theorem cf_X5_65 : CallF false RX5 65 yX5_needThermometer cX5_needThermometer 2 none 1 := ⟨wd_400, (by rw [if_neg (by decide)]; exact ⟨wd_402, wd_1⟩), wd_10, wd_403, by decide, by decide +kernel⟩
theorem cf_X5_82 : CallF false RX5 82 yX2_removeThermometer cX2_removeThermometer 4 none 1 := ⟨wd_424, (by rw [if_neg (by decide)]; exact ⟨wd_425, wd_426⟩), wd_11, wd_427, by decide, by decide +kernel⟩
theorem dX5_breakOne_0 : Dc cX5_breakOne 0 (.aload_n 0) 1 1 := ⟨by decide +kernel, rfl⟩
theorem dX5_breakOne_1 : Dc cX5_breakOne 1 (.iload_n 1) 1 2 := ⟨by decide +kernel, rfl⟩
theorem dX5_breakOne_2 : Dc cX5_breakOne 2 (.invokevirtual 65) 3 5 := ⟨by decide +kernel, rfl⟩
theorem dX5_breakOne_5 : Dc cX5_breakOne 5 (.aload_n 0) 1 6 := ⟨by decide +kernel, rfl⟩
theorem dX5_breakOne_6 : Dc cX5_breakOne 6 (.getfield 10) 3 9 := ⟨by decide +kernel, rfl⟩
theorem dX5_breakOne_9 : Dc cX5_breakOne 9 (.getfield 69) 3 12 := ⟨by decide +kernel, rfl⟩
theorem dX5_breakOne_12 : Dc cX5_breakOne 12 (.iload_n 1) 1 13 := ⟨by decide +kernel, rfl⟩
theorem dX5_breakOne_13 : Dc cX5_breakOne 13 (.aaload) 1 14 := ⟨by decide +kernel, rfl⟩
theorem dX5_breakOne_14 : Dc cX5_breakOne 14 (.getfield 73) 3 17 := ⟨by decide +kernel, rfl⟩
theorem dX5_breakOne_17 : Dc cX5_breakOne 17 (.getfield 79) 3 20 := ⟨by decide +kernel, rfl⟩
theorem dX5_breakOne_20 : Dc cX5_breakOne 20 (.istore_n 2) 1 21 := ⟨by decide +kernel, rfl⟩
theorem dX5_breakOne_21 : Dc cX5_breakOne 21 (.aload_n 0) 1 22 := ⟨by decide +kernel, rfl⟩
theorem dX5_breakOne_22 : Dc cX5_breakOne 22 (.getfield 22) 3 25 := ⟨by decide +kernel, rfl⟩
theorem dX5_breakOne_25 : Dc cX5_breakOne 25 (.aload_n 0) 1 26 := ⟨by decide +kernel, rfl⟩
theorem dX5_breakOne_26 : Dc cX5_breakOne 26 (.getfield 10) 3 29 := ⟨by decide +kernel, rfl⟩
theorem dX5_breakOne_29 : Dc cX5_breakOne 29 (.invokevirtual 53) 3 32 := ⟨by decide +kernel, rfl⟩
theorem dX5_breakOne_32 : Dc cX5_breakOne 32 (.aload_n 0) 1 33 := ⟨by decide +kernel, rfl⟩
theorem dX5_breakOne_33 : Dc cX5_breakOne 33 (.getfield 10) 3 36 := ⟨by decide +kernel, rfl⟩
theorem dX5_breakOne_36 : Dc cX5_breakOne 36 (.iload_n 1) 1 37 := ⟨by decide +kernel, rfl⟩
theorem dX5_breakOne_37 : Dc cX5_breakOne 37 (.invokevirtual 82) 3 40 := ⟨by decide +kernel, rfl⟩
theorem dX5_breakOne_40 : Dc cX5_breakOne 40 (.iload_n 2) 1 41 := ⟨by decide +kernel, rfl⟩
theorem dX5_breakOne_41 : Dc cX5_breakOne 41 (.ireturn) 1 42 := ⟨by decide +kernel, rfl⟩
def F_X5_breakOne (o : OM) (v1 : Int32) : Option ((Nat × Int32) × OM) := bx (F_X5_needThermometer o v1) (0 : Int32) (fun _ o_2 => grd (inB v1 6) (bd (tid 0 (rd o_2 4 0 v1.toNatClampNeg)) (fun t_3 : Nat => bd (rd o_2 6 t_3 0) (fun v2_4 : Int32 => bn (F_X0_push o_2 0) (fun _ o_6 => bn (F_X2_removeThermometer o_6 0 v1) (fun _ o_8 => some ((0, v2_4), o_8)))))))
abbrev rmX5_breakOne : Room := { frames := 7, cells := 0, slots := 0, locals := 125 }
set_option maxHeartbeats 4000000 in
set_option maxRecDepth 100000 in
theorem wX5_breakOne {G : Gd} {p : Program} {l : Launch} {e : Env} {s : State} {m : MethodId} {args : Array Value} {below : List Frame} {meth : Method} {c : Code} {o : OM} {H : Heap} {L0 : List Loc} {ls : Array Slot} {r : (Nat × Int32)} {o9 : OM} {v1 : Int32} (C : Cx G RX5 cX5_breakOne 3 (some .int) p s m args meth c) (E0 : Cex c) (X : XF G s) (hl9 : l.stackTraces = false)  (P : Hp G o s H L0) (hl : lv_has ls 3 [(0, .ref (rA G 0 0)), (1, .int v1)]) (hf : F_X5_breakOne o v1 = some (r, o9)) : W p l e (rmx rmX5_breakOne r.1) s m args below meth c H L0 0 0 (Qxm G r.1 (some (.int r.2)) o9 below args s) (F0 m 0 ls []) := by
  unfold F_X5_breakOne at hf
  refine r_aload_n C hl 0 rfl rfl dX5_breakOne_0 ?_
  refine r_iload_n C hl 1 rfl rfl dX5_breakOne_1 ?_
  refine x_cVv C E0 X P cf_X5_65 (rm := rmX5_needThermometer) (rm9 := rmX5_breakOne) 0 0 (fun _ _ => ⟨_, rfl⟩) rfl rfl rfl [.int v1] [] hf (fun _ _ h => ctX5_needThermometer l G hl9 o v1 h) ⟨Nat.le_of_ble_eq_true rfl, Nat.le_of_ble_eq_true rfl⟩ rfl rfl hl.1 (Nat.le_of_ble_eq_true rfl) dX5_breakOne_2 (fun _ o_2 H1 L1 P hf => ?_)
  refine r_aload_n C hl 0 rfl rfl dX5_breakOne_5 ?_
  refine gf_0_0 C P rfl wd_208 dX5_breakOne_6 ?_
  refine gf_1_7 C P rfl wd_148 dX5_breakOne_9 ?_
  refine r_iload_n C hl 1 rfl rfl dX5_breakOne_12 ?_
  refine r_aldT C P rfl dX5_breakOne_13 hf (fun t_3 ht_3 hf => ?_)
  refine gf_5_7 C P ht_3 wd_114 dX5_breakOne_14 ?_
  refine gf_6_0 C P ht_3 wd_64 dX5_breakOne_17 ?_
  refine r_bdi hf (fun v2_4 hf => ?_)
  refine r_istore_n C [(2, .int v2_4), (0, .ref (rA G 0 0)), (1, .int v1)] hl (by decide) rfl rfl dX5_breakOne_20 (fun ls hl => ?_)
  refine r_aload_n C hl 1 rfl rfl dX5_breakOne_21 ?_
  refine gf_0_2 C P rfl wd_210 dX5_breakOne_22 ?_
  refine r_aload_n C hl 1 rfl rfl dX5_breakOne_25 ?_
  refine gf_0_0 C P rfl wd_208 dX5_breakOne_26 ?_
  refine r_cVv C P cf_X5_53 (rm := rmX0_push) 14 0 (fun _ _ => ⟨_, rfl⟩) rfl rfl rfl [.ref (rA G 1 0)] [] hf (fun _ _ h => ctX0_push l G o_2 0 rfl h) ⟨rfl, rfl⟩ ⟨Nat.le_of_ble_eq_true rfl, Nat.le_of_ble_eq_true rfl⟩ ⟨Nat.zero_le _, Nat.zero_le _⟩ rfl rfl hl.1 (Nat.le_of_ble_eq_true rfl) dX5_breakOne_29 (fun _ o_6 H1 L1 P hf => ?_)
  refine r_aload_n C hl 1 rfl rfl dX5_breakOne_32 ?_
  refine gf_0_0 C P rfl wd_208 dX5_breakOne_33 ?_
  refine r_iload_n C hl 2 rfl rfl dX5_breakOne_36 ?_
  refine r_cVv C P cf_X5_82 (rm := rmX2_removeThermometer) 1 0 (fun _ _ => ⟨_, rfl⟩) rfl rfl rfl [.int v1] [] hf (fun _ _ h => ctX2_removeThermometer l G o_6 0 v1 rfl h) ⟨rfl, rfl⟩ ⟨Nat.le_of_ble_eq_true rfl, Nat.le_of_ble_eq_true rfl⟩ ⟨Nat.zero_le _, Nat.zero_le _⟩ rfl rfl hl.1 (Nat.le_of_ble_eq_true rfl) dX5_breakOne_37 (fun _ o_8 H1 L1 P hf => ?_)
  refine r_iload_n C hl 0 rfl rfl dX5_breakOne_40 ?_
  exact x_iret C P dX5_breakOne_41 hf
theorem ctX5_breakOne (l : Launch) (G : Gd) (hl9 : l.stackTraces = false) (o : OM) (v1 : Int32)  {r : (Nat × Int32)} {o9 : OM} (hf : F_X5_breakOne o v1 = some (r, o9)) : Cte l yX5_breakOne cX5_breakOne 3 (some .int) rmX5_breakOne G [.ref (rA G 0 0), .int v1] o r.1 (some (.int r.2)) o9 := cte_of (by decide +kernel) (Nat.le_of_ble_eq_true rfl) (fun p e s m below meth c ls C E0 X P hl => wX5_breakOne C E0 X hl9  P hl hf)
theorem dX5_needBath_0 : Dc cX5_needBath 0 (.iload_n 0) 1 1 := ⟨by decide +kernel, rfl⟩
theorem dX5_needBath_1 : Dc cX5_needBath 1 (.iconst 0) 1 2 := ⟨by decide +kernel, rfl⟩
theorem dX5_needBath_2 : Dc cX5_needBath 2 (.iconst 3) 1 3 := ⟨by decide +kernel, rfl⟩
theorem dX5_needBath_3 : Dc cX5_needBath 3 (.invokestatic 33) 3 6 := ⟨by decide +kernel, rfl⟩
theorem dX5_needBath_6 : Dj cX5_needBath 6 (.ifCond .ne 14) 3 9 (14) 20 := ⟨by decide +kernel, rfl, by decide⟩
theorem dX5_needBath_20 : Dc cX5_needBath 20 (.return_) 1 21 := ⟨by decide +kernel, rfl⟩
theorem eX5_needBath_9 : decode cX5_needBath 9 = .ok (.new 103, 3) := by decide +kernel
theorem eX5_needBath_12 : decode cX5_needBath 12 = .ok (.dup, 1) := by decide +kernel
theorem eX5_needBath_13 : decode cX5_needBath 13 = .ok (.ldc_w 308, 3) := by decide +kernel
theorem eX5_needBath_16 : decode cX5_needBath 16 = .ok (.invokespecial 107, 3) := by decide +kernel
theorem eX5_needBath_19 : decode cX5_needBath 19 = .ok (.athrow, 1) := by decide +kernel
def F_X5_needBath (o : OM) (v0 : Int32) : Option ((Nat × Unit) × OM) := bq (F_X5_isWithin o v0 ((0 : Int32)) ((3 : Int32))) (fun r_1 => if r_1 = 0 then (some ((3, ()), o)) else (some ((0, ()), o)))
abbrev rmX5_needBath : Room := { frames := 6, cells := 0, slots := 0, locals := 82 }
set_option maxHeartbeats 4000000 in
set_option maxRecDepth 100000 in
theorem wX5_needBath {G : Gd} {p : Program} {l : Launch} {e : Env} {s : State} {m : MethodId} {args : Array Value} {below : List Frame} {meth : Method} {c : Code} {o : OM} {H : Heap} {L0 : List Loc} {ls : Array Slot} {r : (Nat × Unit)} {o9 : OM} {v0 : Int32} (C : Cx G RX5 cX5_needBath 1 none p s m args meth c) (E0 : Cex c) (X : XF G s) (hl9 : l.stackTraces = false)  (P : Hp G o s H L0) (hl : lv_has ls 1 [(0, .int v0)]) (hf : F_X5_needBath o v0 = some (r, o9)) : W p l e (rmx rmX5_needBath r.1) s m args below meth c H L0 0 0 (Qxm G r.1 none o9 below args s) (F0 m 0 ls []) := by
  unfold F_X5_needBath at hf
  refine r_iload_n C hl 0 rfl rfl dX5_needBath_0 ?_
  refine r_iconst C (v := 0) (by decide) dX5_needBath_1 ?_
  refine r_iconst C (v := 3) (by decide) dX5_needBath_2 ?_
  refine r_qSi C P cf_X5_33 (rm := rmX5_isWithin) [.int v0, .int ((0 : Int32)), .int ((3 : Int32))] [] hf (fun _ h => ctX5_isWithin l G o v0 ((0 : Int32)) ((3 : Int32)) h) ⟨rfl, rfl⟩ ⟨Nat.le_of_ble_eq_true rfl, Nat.le_of_ble_eq_true rfl⟩ ⟨Nat.zero_le _, Nat.zero_le _⟩ rfl rfl hl.1 (Nat.le_of_ble_eq_true rfl) dX5_needBath_3 (fun r_1 H1 L1 P hf => ?_)
  refine r_if_ne C dX5_needBath_6 hf (fun hf => ?_) (fun hf => ?_)
  · exact x_vret C P dX5_needBath_20 hf
  · exact x_throwW C E0 X hl9 P (E := "java/lang/IndexOutOfBoundsException") (tx := "no such bath") (ik := 103) (is := 308) (ic := 107) ⟨rfl, by decide, by decide, wd_408, wd_22, th_3a, th_3b, th_3c, by decide⟩ (rm := rmX5_needBath) ⟨Nat.le_of_ble_eq_true rfl, Nat.le_of_ble_eq_true rfl⟩ hl.1 eX5_needBath_9 eX5_needBath_12 eX5_needBath_13 eX5_needBath_16 eX5_needBath_19 hf
theorem ctX5_needBath (l : Launch) (G : Gd) (hl9 : l.stackTraces = false) (o : OM) (v0 : Int32)  {r : (Nat × Unit)} {o9 : OM} (hf : F_X5_needBath o v0 = some (r, o9)) : Cte l yX5_needBath cX5_needBath 1 none rmX5_needBath G [.int v0] o r.1 none o9 := cte_of (by decide +kernel) (Nat.le_of_ble_eq_true rfl) (fun p e s m below meth c ls C E0 X P hl => wX5_needBath C E0 X hl9  P hl hf)
theorem dX5_needDegree_0 : Dc cX5_needDegree 0 (.iload_n 0) 1 1 := ⟨by decide +kernel, rfl⟩
theorem dX5_needDegree_1 : Dc cX5_needDegree 1 (.sipush (-400)) 3 4 := ⟨by decide +kernel, rfl⟩
theorem dX5_needDegree_4 : Dc cX5_needDegree 4 (.sipush 1500) 3 7 := ⟨by decide +kernel, rfl⟩
theorem dX5_needDegree_7 : Dc cX5_needDegree 7 (.invokestatic 33) 3 10 := ⟨by decide +kernel, rfl⟩
theorem dX5_needDegree_10 : Dj cX5_needDegree 10 (.ifCond .ne 14) 3 13 (14) 24 := ⟨by decide +kernel, rfl, by decide⟩
theorem dX5_needDegree_24 : Dc cX5_needDegree 24 (.return_) 1 25 := ⟨by decide +kernel, rfl⟩
theorem eX5_needDegree_13 : decode cX5_needDegree 13 = .ok (.new 37, 3) := by decide +kernel
theorem eX5_needDegree_16 : decode cX5_needDegree 16 = .ok (.dup, 1) := by decide +kernel
theorem eX5_needDegree_17 : decode cX5_needDegree 17 = .ok (.ldc_w 310, 3) := by decide +kernel
theorem eX5_needDegree_20 : decode cX5_needDegree 20 = .ok (.invokespecial 41, 3) := by decide +kernel
theorem eX5_needDegree_23 : decode cX5_needDegree 23 = .ok (.athrow, 1) := by decide +kernel
def F_X5_needDegree (o : OM) (v0 : Int32) : Option ((Nat × Unit) × OM) := bq (F_X5_isWithin o v0 ((-400 : Int32)) ((1500 : Int32))) (fun r_1 => if r_1 = 0 then (some ((1, ()), o)) else (some ((0, ()), o)))
abbrev rmX5_needDegree : Room := { frames := 6, cells := 0, slots := 0, locals := 82 }
set_option maxHeartbeats 4000000 in
set_option maxRecDepth 100000 in
theorem wX5_needDegree {G : Gd} {p : Program} {l : Launch} {e : Env} {s : State} {m : MethodId} {args : Array Value} {below : List Frame} {meth : Method} {c : Code} {o : OM} {H : Heap} {L0 : List Loc} {ls : Array Slot} {r : (Nat × Unit)} {o9 : OM} {v0 : Int32} (C : Cx G RX5 cX5_needDegree 1 none p s m args meth c) (E0 : Cex c) (X : XF G s) (hl9 : l.stackTraces = false)  (P : Hp G o s H L0) (hl : lv_has ls 1 [(0, .int v0)]) (hf : F_X5_needDegree o v0 = some (r, o9)) : W p l e (rmx rmX5_needDegree r.1) s m args below meth c H L0 0 0 (Qxm G r.1 none o9 below args s) (F0 m 0 ls []) := by
  unfold F_X5_needDegree at hf
  refine r_iload_n C hl 0 rfl rfl dX5_needDegree_0 ?_
  refine r_sipush C (v := -400) (by decide) dX5_needDegree_1 ?_
  refine r_sipush C (v := 1500) (by decide) dX5_needDegree_4 ?_
  refine r_qSi C P cf_X5_33 (rm := rmX5_isWithin) [.int v0, .int ((-400 : Int32)), .int ((1500 : Int32))] [] hf (fun _ h => ctX5_isWithin l G o v0 ((-400 : Int32)) ((1500 : Int32)) h) ⟨rfl, rfl⟩ ⟨Nat.le_of_ble_eq_true rfl, Nat.le_of_ble_eq_true rfl⟩ ⟨Nat.zero_le _, Nat.zero_le _⟩ rfl rfl hl.1 (Nat.le_of_ble_eq_true rfl) dX5_needDegree_7 (fun r_1 H1 L1 P hf => ?_)
  refine r_if_ne C dX5_needDegree_10 hf (fun hf => ?_) (fun hf => ?_)
  · exact x_vret C P dX5_needDegree_24 hf
  · exact x_throwW C E0 X hl9 P (E := "java/lang/IllegalArgumentException") (tx := "degree is out of range") (ik := 37) (is := 310) (ic := 41) ⟨rfl, by decide, by decide, wd_322, wd_19, th_1a, th_1b, th_1c, by decide⟩ (rm := rmX5_needDegree) ⟨Nat.le_of_ble_eq_true rfl, Nat.le_of_ble_eq_true rfl⟩ hl.1 eX5_needDegree_13 eX5_needDegree_16 eX5_needDegree_17 eX5_needDegree_20 eX5_needDegree_23 hf
theorem ctX5_needDegree (l : Launch) (G : Gd) (hl9 : l.stackTraces = false) (o : OM) (v0 : Int32)  {r : (Nat × Unit)} {o9 : OM} (hf : F_X5_needDegree o v0 = some (r, o9)) : Cte l yX5_needDegree cX5_needDegree 1 none rmX5_needDegree G [.int v0] o r.1 none o9 := cte_of (by decide +kernel) (Nat.le_of_ble_eq_true rfl) (fun p e s m below meth c ls C E0 X P hl => wX5_needDegree C E0 X hl9  P hl hf)
theorem cf_X5_85 : CallF true RX5 85 yX5_needBath cX5_needBath 1 none 1 := ⟨wd_433, (by rw [if_pos rfl]; exact wd_434), wd_10, wd_435, by decide, by decide +kernel⟩
theorem cf_X5_88 : CallF true RX5 88 yX5_needDegree cX5_needDegree 1 none 1 := ⟨wd_437, (by rw [if_pos rfl]; exact wd_438), wd_10, wd_439, by decide, by decide +kernel⟩
theorem dX5_bath_0 : Dc cX5_bath 0 (.iload_n 1) 1 1 := ⟨by decide +kernel, rfl⟩
theorem dX5_bath_1 : Dc cX5_bath 1 (.invokestatic 85) 3 4 := ⟨by decide +kernel, rfl⟩
theorem dX5_bath_4 : Dc cX5_bath 4 (.iload_n 2) 1 5 := ⟨by decide +kernel, rfl⟩
theorem dX5_bath_5 : Dc cX5_bath 5 (.invokestatic 88) 3 8 := ⟨by decide +kernel, rfl⟩
theorem dX5_bath_8 : Dc cX5_bath 8 (.aload_n 0) 1 9 := ⟨by decide +kernel, rfl⟩
theorem dX5_bath_9 : Dc cX5_bath 9 (.getfield 10) 3 12 := ⟨by decide +kernel, rfl⟩
theorem dX5_bath_12 : Dc cX5_bath 12 (.getfield 91) 3 15 := ⟨by decide +kernel, rfl⟩
theorem dX5_bath_15 : Dc cX5_bath 15 (.iload_n 1) 1 16 := ⟨by decide +kernel, rfl⟩
theorem dX5_bath_16 : Dc cX5_bath 16 (.iaload) 1 17 := ⟨by decide +kernel, rfl⟩
theorem dX5_bath_17 : Dc cX5_bath 17 (.istore_n 3) 1 18 := ⟨by decide +kernel, rfl⟩
theorem dX5_bath_18 : Dc cX5_bath 18 (.aload_n 0) 1 19 := ⟨by decide +kernel, rfl⟩
theorem dX5_bath_19 : Dc cX5_bath 19 (.getfield 22) 3 22 := ⟨by decide +kernel, rfl⟩
theorem dX5_bath_22 : Dc cX5_bath 22 (.aload_n 0) 1 23 := ⟨by decide +kernel, rfl⟩
theorem dX5_bath_23 : Dc cX5_bath 23 (.getfield 10) 3 26 := ⟨by decide +kernel, rfl⟩
theorem dX5_bath_26 : Dc cX5_bath 26 (.invokevirtual 53) 3 29 := ⟨by decide +kernel, rfl⟩
theorem dX5_bath_29 : Dc cX5_bath 29 (.aload_n 0) 1 30 := ⟨by decide +kernel, rfl⟩
theorem dX5_bath_30 : Dc cX5_bath 30 (.getfield 10) 3 33 := ⟨by decide +kernel, rfl⟩
theorem dX5_bath_33 : Dc cX5_bath 33 (.getfield 91) 3 36 := ⟨by decide +kernel, rfl⟩
theorem dX5_bath_36 : Dc cX5_bath 36 (.iload_n 1) 1 37 := ⟨by decide +kernel, rfl⟩
theorem dX5_bath_37 : Dc cX5_bath 37 (.iload_n 2) 1 38 := ⟨by decide +kernel, rfl⟩
theorem dX5_bath_38 : Dc cX5_bath 38 (.iastore) 1 39 := ⟨by decide +kernel, rfl⟩
theorem dX5_bath_39 : Dc cX5_bath 39 (.iload_n 3) 1 40 := ⟨by decide +kernel, rfl⟩
theorem dX5_bath_40 : Dc cX5_bath 40 (.sipush 10000) 3 43 := ⟨by decide +kernel, rfl⟩
theorem dX5_bath_43 : Dc cX5_bath 43 (.iadd) 1 44 := ⟨by decide +kernel, rfl⟩
theorem dX5_bath_44 : Dc cX5_bath 44 (.ireturn) 1 45 := ⟨by decide +kernel, rfl⟩
def F_X5_bath (o : OM) (v1 : Int32) (v2 : Int32) : Option ((Nat × Int32) × OM) := bx (F_X5_needBath o v1) (0 : Int32) (fun _ o_2 => bx (F_X5_needDegree o_2 v2) (0 : Int32) (fun _ o_4 => grd (inB v1 4) (bd (rd o_4 2 0 v1.toNatClampNeg) (fun v3_5 : Int32 => bn (F_X0_push o_4 0) (fun _ o_7 => grd (inB v1 4) (bd (wr o_7 2 0 v1.toNatClampNeg v2) (fun o_8 : OM => some ((0, (v3_5 + ((10000 : Int32)))), o_8))))))))
abbrev rmX5_bath : Room := { frames := 7, cells := 0, slots := 0, locals := 125 }
set_option maxHeartbeats 4000000 in
set_option maxRecDepth 100000 in
theorem wX5_bath {G : Gd} {p : Program} {l : Launch} {e : Env} {s : State} {m : MethodId} {args : Array Value} {below : List Frame} {meth : Method} {c : Code} {o : OM} {H : Heap} {L0 : List Loc} {ls : Array Slot} {r : (Nat × Int32)} {o9 : OM} {v1 : Int32} {v2 : Int32} (C : Cx G RX5 cX5_bath 4 (some .int) p s m args meth c) (E0 : Cex c) (X : XF G s) (hl9 : l.stackTraces = false)  (P : Hp G o s H L0) (hl : lv_has ls 4 [(0, .ref (rA G 0 0)), (1, .int v1), (2, .int v2)]) (hf : F_X5_bath o v1 v2 = some (r, o9)) : W p l e (rmx rmX5_bath r.1) s m args below meth c H L0 0 0 (Qxm G r.1 (some (.int r.2)) o9 below args s) (F0 m 0 ls []) := by
  unfold F_X5_bath at hf
  refine r_iload_n C hl 1 rfl rfl dX5_bath_0 ?_
  refine x_cSv C E0 X P cf_X5_85 (rm := rmX5_needBath) (rm9 := rmX5_bath) [.int v1] [] hf (fun _ _ h => ctX5_needBath l G hl9 o v1 h) ⟨Nat.le_of_ble_eq_true rfl, Nat.le_of_ble_eq_true rfl⟩ rfl rfl hl.1 (Nat.le_of_ble_eq_true rfl) dX5_bath_1 (fun _ o_2 H1 L1 P hf => ?_)
  refine r_iload_n C hl 2 rfl rfl dX5_bath_4 ?_
  refine x_cSv C E0 X P cf_X5_88 (rm := rmX5_needDegree) (rm9 := rmX5_bath) [.int v2] [] hf (fun _ _ h => ctX5_needDegree l G hl9 o_2 v2 h) ⟨Nat.le_of_ble_eq_true rfl, Nat.le_of_ble_eq_true rfl⟩ rfl rfl hl.1 (Nat.le_of_ble_eq_true rfl) dX5_bath_5 (fun _ o_4 H1 L1 P hf => ?_)
  refine r_aload_n C hl 0 rfl rfl dX5_bath_8 ?_
  refine gf_0_0 C P rfl wd_208 dX5_bath_9 ?_
  refine gf_1_5 C P rfl wd_144 dX5_bath_12 ?_
  refine r_iload_n C hl 1 rfl rfl dX5_bath_15 ?_
  refine r_iald C P (k := 2) (i := 0) (n := 4) (fun _ _ => rfl) rfl dX5_bath_16 hf (fun hf => ?_)
  refine r_bdi hf (fun v3_5 hf => ?_)
  refine r_istore_n C [(3, .int v3_5), (0, .ref (rA G 0 0)), (1, .int v1), (2, .int v2)] hl (by decide) rfl rfl dX5_bath_17 (fun ls hl => ?_)
  refine r_aload_n C hl 1 rfl rfl dX5_bath_18 ?_
  refine gf_0_2 C P rfl wd_210 dX5_bath_19 ?_
  refine r_aload_n C hl 1 rfl rfl dX5_bath_22 ?_
  refine gf_0_0 C P rfl wd_208 dX5_bath_23 ?_
  refine r_cVv C P cf_X5_53 (rm := rmX0_push) 14 0 (fun _ _ => ⟨_, rfl⟩) rfl rfl rfl [.ref (rA G 1 0)] [] hf (fun _ _ h => ctX0_push l G o_4 0 rfl h) ⟨rfl, rfl⟩ ⟨Nat.le_of_ble_eq_true rfl, Nat.le_of_ble_eq_true rfl⟩ ⟨Nat.zero_le _, Nat.zero_le _⟩ rfl rfl hl.1 (Nat.le_of_ble_eq_true rfl) dX5_bath_26 (fun _ o_7 H1 L1 P hf => ?_)
  refine r_aload_n C hl 1 rfl rfl dX5_bath_29 ?_
  refine gf_0_0 C P rfl wd_208 dX5_bath_30 ?_
  refine gf_1_5 C P rfl wd_144 dX5_bath_33 ?_
  refine r_iload_n C hl 2 rfl rfl dX5_bath_36 ?_
  refine r_iload_n C hl 3 rfl rfl dX5_bath_37 ?_
  refine r_iast C P (k := 2) (i := 0) (n := 4) (fun _ _ => rfl) rfl dX5_bath_38 hf (fun o_8 H1 L1 P hf => ?_)
  refine r_iload_n C hl 0 rfl rfl dX5_bath_39 ?_
  refine r_sipush C (v := 10000) (by decide) dX5_bath_40 ?_
  refine r_iadd2 C dX5_bath_43 ?_
  exact x_iret C P dX5_bath_44 hf
theorem ctX5_bath (l : Launch) (G : Gd) (hl9 : l.stackTraces = false) (o : OM) (v1 : Int32) (v2 : Int32)  {r : (Nat × Int32)} {o9 : OM} (hf : F_X5_bath o v1 v2 = some (r, o9)) : Cte l yX5_bath cX5_bath 4 (some .int) rmX5_bath G [.ref (rA G 0 0), .int v1, .int v2] o r.1 (some (.int r.2)) o9 := cte_of (by decide +kernel) (Nat.le_of_ble_eq_true rfl) (fun p e s m below meth c ls C E0 X P hl => wX5_bath C E0 X hl9  P hl hf)
theorem cf_X5_97 : CallF false RX5 97 yX2_letPass cX2_letPass 4 none 1 := ⟨wd_446, (by rw [if_neg (by decide)]; exact ⟨wd_447, wd_448⟩), wd_11, wd_449, by decide, by decide +kernel⟩
theorem dX5_pass_0 : Dc cX5_pass 0 (.iload_n 1) 1 1 := ⟨by decide +kernel, rfl⟩
theorem dX5_pass_1 : Dc cX5_pass 1 (.iconst 1) 1 2 := ⟨by decide +kernel, rfl⟩
theorem dX5_pass_2 : Dc cX5_pass 2 (.bipush 20) 2 4 := ⟨by decide +kernel, rfl⟩
theorem dX5_pass_4 : Dc cX5_pass 4 (.invokestatic 33) 3 7 := ⟨by decide +kernel, rfl⟩
theorem dX5_pass_7 : Dj cX5_pass 7 (.ifCond .ne 13) 3 10 (13) 20 := ⟨by decide +kernel, rfl, by decide⟩
theorem dX5_pass_20 : Dc cX5_pass 20 (.aload_n 0) 1 21 := ⟨by decide +kernel, rfl⟩
theorem dX5_pass_21 : Dc cX5_pass 21 (.getfield 22) 3 24 := ⟨by decide +kernel, rfl⟩
theorem dX5_pass_24 : Dc cX5_pass 24 (.aload_n 0) 1 25 := ⟨by decide +kernel, rfl⟩
theorem dX5_pass_25 : Dc cX5_pass 25 (.getfield 10) 3 28 := ⟨by decide +kernel, rfl⟩
theorem dX5_pass_28 : Dc cX5_pass 28 (.invokevirtual 53) 3 31 := ⟨by decide +kernel, rfl⟩
theorem dX5_pass_31 : Dc cX5_pass 31 (.aload_n 0) 1 32 := ⟨by decide +kernel, rfl⟩
theorem dX5_pass_32 : Dc cX5_pass 32 (.getfield 10) 3 35 := ⟨by decide +kernel, rfl⟩
theorem dX5_pass_35 : Dc cX5_pass 35 (.iload_n 1) 1 36 := ⟨by decide +kernel, rfl⟩
theorem dX5_pass_36 : Dc cX5_pass 36 (.invokevirtual 97) 3 39 := ⟨by decide +kernel, rfl⟩
theorem dX5_pass_39 : Dc cX5_pass 39 (.aload_n 0) 1 40 := ⟨by decide +kernel, rfl⟩
theorem dX5_pass_40 : Dc cX5_pass 40 (.getfield 10) 3 43 := ⟨by decide +kernel, rfl⟩
theorem dX5_pass_43 : Dc cX5_pass 43 (.getfield 100) 3 46 := ⟨by decide +kernel, rfl⟩
theorem dX5_pass_46 : Dc cX5_pass 46 (.ireturn) 1 47 := ⟨by decide +kernel, rfl⟩
theorem eX5_pass_10 : decode cX5_pass 10 = .ok (.new 37, 3) := by decide +kernel
theorem eX5_pass_13 : decode cX5_pass 13 = .ok (.dup, 1) := by decide +kernel
theorem eX5_pass_14 : decode cX5_pass 14 = .ok (.ldc 95, 2) := by decide +kernel
theorem eX5_pass_16 : decode cX5_pass 16 = .ok (.invokespecial 41, 3) := by decide +kernel
theorem eX5_pass_19 : decode cX5_pass 19 = .ok (.athrow, 1) := by decide +kernel
def F_X5_pass (o : OM) (v1 : Int32) : Option ((Nat × Int32) × OM) := bq (F_X5_isWithin o v1 ((1 : Int32)) ((20 : Int32))) (fun r_1 => if r_1 = 0 then (some ((1, 0), o)) else (bn (F_X0_push o 0) (fun _ o_3 => bn (F_X2_letPass o_3 0 v1) (fun _ o_5 => some ((0, (rd o_5 1 0 0)), o_5)))))
abbrev rmX5_pass : Room := { frames := 6, cells := 0, slots := 0, locals := 125 }
set_option maxHeartbeats 4000000 in
set_option maxRecDepth 100000 in
theorem wX5_pass {G : Gd} {p : Program} {l : Launch} {e : Env} {s : State} {m : MethodId} {args : Array Value} {below : List Frame} {meth : Method} {c : Code} {o : OM} {H : Heap} {L0 : List Loc} {ls : Array Slot} {r : (Nat × Int32)} {o9 : OM} {v1 : Int32} (C : Cx G RX5 cX5_pass 2 (some .int) p s m args meth c) (E0 : Cex c) (X : XF G s) (hl9 : l.stackTraces = false)  (P : Hp G o s H L0) (hl : lv_has ls 2 [(0, .ref (rA G 0 0)), (1, .int v1)]) (hf : F_X5_pass o v1 = some (r, o9)) : W p l e (rmx rmX5_pass r.1) s m args below meth c H L0 0 0 (Qxm G r.1 (some (.int r.2)) o9 below args s) (F0 m 0 ls []) := by
  unfold F_X5_pass at hf
  refine r_iload_n C hl 1 rfl rfl dX5_pass_0 ?_
  refine r_iconst C (v := 1) (by decide) dX5_pass_1 ?_
  refine r_bipush C (v := 20) (by decide) dX5_pass_2 ?_
  refine r_qSi C P cf_X5_33 (rm := rmX5_isWithin) [.int v1, .int ((1 : Int32)), .int ((20 : Int32))] [] hf (fun _ h => ctX5_isWithin l G o v1 ((1 : Int32)) ((20 : Int32)) h) ⟨rfl, rfl⟩ ⟨Nat.le_of_ble_eq_true rfl, Nat.le_of_ble_eq_true rfl⟩ ⟨Nat.zero_le _, Nat.zero_le _⟩ rfl rfl hl.1 (Nat.le_of_ble_eq_true rfl) dX5_pass_4 (fun r_1 H1 L1 P hf => ?_)
  refine r_if_ne C dX5_pass_7 hf (fun hf => ?_) (fun hf => ?_)
  · refine r_aload_n C hl 0 rfl rfl dX5_pass_20 ?_
    refine gf_0_2 C P rfl wd_210 dX5_pass_21 ?_
    refine r_aload_n C hl 0 rfl rfl dX5_pass_24 ?_
    refine gf_0_0 C P rfl wd_208 dX5_pass_25 ?_
    refine r_cVv C P cf_X5_53 (rm := rmX0_push) 14 0 (fun _ _ => ⟨_, rfl⟩) rfl rfl rfl [.ref (rA G 1 0)] [] hf (fun _ _ h => ctX0_push l G o 0 rfl h) ⟨rfl, rfl⟩ ⟨Nat.le_of_ble_eq_true rfl, Nat.le_of_ble_eq_true rfl⟩ ⟨Nat.zero_le _, Nat.zero_le _⟩ rfl rfl hl.1 (Nat.le_of_ble_eq_true rfl) dX5_pass_28 (fun _ o_3 H1 L1 P hf => ?_)
    refine r_aload_n C hl 0 rfl rfl dX5_pass_31 ?_
    refine gf_0_0 C P rfl wd_208 dX5_pass_32 ?_
    refine r_iload_n C hl 1 rfl rfl dX5_pass_35 ?_
    refine r_cVv C P cf_X5_97 (rm := rmX2_letPass) 1 0 (fun _ _ => ⟨_, rfl⟩) rfl rfl rfl [.int v1] [] hf (fun _ _ h => ctX2_letPass l G o_3 0 v1 rfl h) ⟨rfl, rfl⟩ ⟨Nat.le_of_ble_eq_true rfl, Nat.le_of_ble_eq_true rfl⟩ ⟨Nat.zero_le _, Nat.zero_le _⟩ rfl rfl hl.1 (Nat.le_of_ble_eq_true rfl) dX5_pass_36 (fun _ o_5 H1 L1 P hf => ?_)
    refine r_aload_n C hl 0 rfl rfl dX5_pass_39 ?_
    refine gf_0_0 C P rfl wd_208 dX5_pass_40 ?_
    refine gf_1_0 C P rfl wd_134 dX5_pass_43 ?_
    exact x_iret C P dX5_pass_46 hf
  · exact x_throw C E0 X hl9 P (E := "java/lang/IllegalArgumentException") (tx := "years is out of range") (ik := 37) (is := 95) (ic := 41) ⟨rfl, by decide, by decide, wd_322, wd_19, th_1a, th_1b, th_1c, by decide⟩ (rm := rmX5_pass) ⟨Nat.le_of_ble_eq_true rfl, Nat.le_of_ble_eq_true rfl⟩ hl.1 eX5_pass_10 eX5_pass_13 eX5_pass_14 eX5_pass_16 eX5_pass_19 hf
theorem ctX5_pass (l : Launch) (G : Gd) (hl9 : l.stackTraces = false) (o : OM) (v1 : Int32)  {r : (Nat × Int32)} {o9 : OM} (hf : F_X5_pass o v1 = some (r, o9)) : Cte l yX5_pass cX5_pass 2 (some .int) rmX5_pass G [.ref (rA G 0 0), .int v1] o r.1 (some (.int r.2)) o9 := cte_of (by decide +kernel) (Nat.le_of_ble_eq_true rfl) (fun p e s m below meth c ls C E0 X P hl => wX5_pass C E0 X hl9  P hl hf)
theorem dX5_set_0 : Dc cX5_set 0 (.iload_n 1) 1 1 := ⟨by decide +kernel, rfl⟩
theorem dX5_set_1 : Dc cX5_set 1 (.iconst 0) 1 2 := ⟨by decide +kernel, rfl⟩
theorem dX5_set_2 : Dc cX5_set 2 (.bipush 6) 2 4 := ⟨by decide +kernel, rfl⟩
theorem dX5_set_4 : Dc cX5_set 4 (.invokestatic 33) 3 7 := ⟨by decide +kernel, rfl⟩
theorem dX5_set_7 : Dj cX5_set 7 (.ifCond .ne 13) 3 10 (13) 20 := ⟨by decide +kernel, rfl, by decide⟩
theorem dX5_set_20 : Dc cX5_set 20 (.iload_n 2) 1 21 := ⟨by decide +kernel, rfl⟩
theorem dX5_set_21 : Dc cX5_set 21 (.iconst 0) 1 22 := ⟨by decide +kernel, rfl⟩
theorem dX5_set_22 : Dc cX5_set 22 (.getstatic 108) 3 25 := ⟨by decide +kernel, rfl⟩
theorem dX5_set_25 : Dc cX5_set 25 (.iload_n 1) 1 26 := ⟨by decide +kernel, rfl⟩
theorem dX5_set_26 : Dc cX5_set 26 (.iaload) 1 27 := ⟨by decide +kernel, rfl⟩
theorem dX5_set_27 : Dc cX5_set 27 (.invokestatic 33) 3 30 := ⟨by decide +kernel, rfl⟩
theorem dX5_set_30 : Dj cX5_set 30 (.ifCond .ne 13) 3 33 (13) 43 := ⟨by decide +kernel, rfl, by decide⟩
theorem dX5_set_43 : Dc cX5_set 43 (.aload_n 0) 1 44 := ⟨by decide +kernel, rfl⟩
theorem dX5_set_44 : Dc cX5_set 44 (.getfield 10) 3 47 := ⟨by decide +kernel, rfl⟩
theorem dX5_set_47 : Dc cX5_set 47 (.getfield 113) 3 50 := ⟨by decide +kernel, rfl⟩
theorem dX5_set_50 : Dc cX5_set 50 (.iload_n 1) 1 51 := ⟨by decide +kernel, rfl⟩
theorem dX5_set_51 : Dc cX5_set 51 (.iaload) 1 52 := ⟨by decide +kernel, rfl⟩
theorem dX5_set_52 : Dc cX5_set 52 (.istore_n 3) 1 53 := ⟨by decide +kernel, rfl⟩
theorem dX5_set_53 : Dc cX5_set 53 (.aload_n 0) 1 54 := ⟨by decide +kernel, rfl⟩
theorem dX5_set_54 : Dc cX5_set 54 (.getfield 22) 3 57 := ⟨by decide +kernel, rfl⟩
theorem dX5_set_57 : Dc cX5_set 57 (.aload_n 0) 1 58 := ⟨by decide +kernel, rfl⟩
theorem dX5_set_58 : Dc cX5_set 58 (.getfield 10) 3 61 := ⟨by decide +kernel, rfl⟩
theorem dX5_set_61 : Dc cX5_set 61 (.invokevirtual 53) 3 64 := ⟨by decide +kernel, rfl⟩
theorem dX5_set_64 : Dc cX5_set 64 (.aload_n 0) 1 65 := ⟨by decide +kernel, rfl⟩
theorem dX5_set_65 : Dc cX5_set 65 (.getfield 10) 3 68 := ⟨by decide +kernel, rfl⟩
theorem dX5_set_68 : Dc cX5_set 68 (.getfield 113) 3 71 := ⟨by decide +kernel, rfl⟩
theorem dX5_set_71 : Dc cX5_set 71 (.iload_n 1) 1 72 := ⟨by decide +kernel, rfl⟩
theorem dX5_set_72 : Dc cX5_set 72 (.iload_n 2) 1 73 := ⟨by decide +kernel, rfl⟩
theorem dX5_set_73 : Dc cX5_set 73 (.iastore) 1 74 := ⟨by decide +kernel, rfl⟩
theorem dX5_set_74 : Dc cX5_set 74 (.iload_n 3) 1 75 := ⟨by decide +kernel, rfl⟩
theorem dX5_set_75 : Dc cX5_set 75 (.ireturn) 1 76 := ⟨by decide +kernel, rfl⟩
theorem eX5_set_10 : decode cX5_set 10 = .ok (.new 103, 3) := by decide +kernel
theorem eX5_set_13 : decode cX5_set 13 = .ok (.dup, 1) := by decide +kernel
theorem eX5_set_14 : decode cX5_set 14 = .ok (.ldc 105, 2) := by decide +kernel
theorem eX5_set_16 : decode cX5_set 16 = .ok (.invokespecial 107, 3) := by decide +kernel
theorem eX5_set_19 : decode cX5_set 19 = .ok (.athrow, 1) := by decide +kernel
theorem eX5_set_33 : decode cX5_set 33 = .ok (.new 37, 3) := by decide +kernel
theorem eX5_set_36 : decode cX5_set 36 = .ok (.dup, 1) := by decide +kernel
theorem eX5_set_37 : decode cX5_set 37 = .ok (.ldc 111, 2) := by decide +kernel
theorem eX5_set_39 : decode cX5_set 39 = .ok (.invokespecial 41, 3) := by decide +kernel
theorem eX5_set_42 : decode cX5_set 42 = .ok (.athrow, 1) := by decide +kernel
def F_X5_set (o : OM) (v1 : Int32) (v2 : Int32) : Option ((Nat × Int32) × OM) := bq (F_X5_isWithin o v1 ((0 : Int32)) ((6 : Int32))) (fun r_1 => if r_1 = 0 then (some ((3, 0), o)) else (grd (inB v1 7) (bq (F_X5_isWithin o v2 ((0 : Int32)) (fSL v1.toNatClampNeg)) (fun r_2 => if r_2 = 0 then (some ((1, 0), o)) else (grd (inB v1 7) (bd (rd o 3 0 v1.toNatClampNeg) (fun v3_3 : Int32 => bn (F_X0_push o 0) (fun _ o_5 => grd (inB v1 7) (bd (wr o_5 3 0 v1.toNatClampNeg v2) (fun o_6 : OM => some ((0, v3_3), o_6)))))))))))
abbrev rmX5_set : Room := { frames := 6, cells := 0, slots := 0, locals := 125 }
set_option maxHeartbeats 4000000 in
set_option maxRecDepth 100000 in
theorem wX5_set {G : Gd} {p : Program} {l : Launch} {e : Env} {s : State} {m : MethodId} {args : Array Value} {below : List Frame} {meth : Method} {c : Code} {o : OM} {H : Heap} {L0 : List Loc} {ls : Array Slot} {r : (Nat × Int32)} {o9 : OM} {v1 : Int32} {v2 : Int32} (C : Cx G RX5 cX5_set 4 (some .int) p s m args meth c) (E0 : Cex c) (X : XF G s) (hl9 : l.stackTraces = false)  (P : Hp G o s H L0) (hl : lv_has ls 4 [(0, .ref (rA G 0 0)), (1, .int v1), (2, .int v2)]) (hf : F_X5_set o v1 v2 = some (r, o9)) : W p l e (rmx rmX5_set r.1) s m args below meth c H L0 0 0 (Qxm G r.1 (some (.int r.2)) o9 below args s) (F0 m 0 ls []) := by
  unfold F_X5_set at hf
  refine r_iload_n C hl 1 rfl rfl dX5_set_0 ?_
  refine r_iconst C (v := 0) (by decide) dX5_set_1 ?_
  refine r_bipush C (v := 6) (by decide) dX5_set_2 ?_
  refine r_qSi C P cf_X5_33 (rm := rmX5_isWithin) [.int v1, .int ((0 : Int32)), .int ((6 : Int32))] [] hf (fun _ h => ctX5_isWithin l G o v1 ((0 : Int32)) ((6 : Int32)) h) ⟨rfl, rfl⟩ ⟨Nat.le_of_ble_eq_true rfl, Nat.le_of_ble_eq_true rfl⟩ ⟨Nat.zero_le _, Nat.zero_le _⟩ rfl rfl hl.1 (Nat.le_of_ble_eq_true rfl) dX5_set_4 (fun r_1 H1 L1 P hf => ?_)
  refine r_if_ne C dX5_set_7 hf (fun hf => ?_) (fun hf => ?_)
  · refine r_iload_n C hl 2 rfl rfl dX5_set_20 ?_
    refine r_iconst C (v := 0) (by decide) dX5_set_21 ?_
    refine gs_25 C X P wd_469 dX5_set_22 ?_
    refine r_iload_n C hl 1 rfl rfl dX5_set_25 ?_
    refine sld_25 C X P dX5_set_26 hf (fun hf => ?_)
    refine r_qSi C P cf_X5_33 (rm := rmX5_isWithin) [.int v2, .int ((0 : Int32)), .int (fSL v1.toNatClampNeg)] [] hf (fun _ h => ctX5_isWithin l G o v2 ((0 : Int32)) (fSL v1.toNatClampNeg) h) ⟨rfl, rfl⟩ ⟨Nat.le_of_ble_eq_true rfl, Nat.le_of_ble_eq_true rfl⟩ ⟨Nat.zero_le _, Nat.zero_le _⟩ rfl rfl hl.1 (Nat.le_of_ble_eq_true rfl) dX5_set_27 (fun r_2 H1 L1 P hf => ?_)
    refine r_if_ne C dX5_set_30 hf (fun hf => ?_) (fun hf => ?_)
    · refine r_aload_n C hl 0 rfl rfl dX5_set_43 ?_
      refine gf_0_0 C P rfl wd_208 dX5_set_44 ?_
      refine gf_1_6 C P rfl wd_146 dX5_set_47 ?_
      refine r_iload_n C hl 1 rfl rfl dX5_set_50 ?_
      refine r_iald C P (k := 3) (i := 0) (n := 7) (fun _ _ => rfl) rfl dX5_set_51 hf (fun hf => ?_)
      refine r_bdi hf (fun v3_3 hf => ?_)
      refine r_istore_n C [(3, .int v3_3), (0, .ref (rA G 0 0)), (1, .int v1), (2, .int v2)] hl (by decide) rfl rfl dX5_set_52 (fun ls hl => ?_)
      refine r_aload_n C hl 1 rfl rfl dX5_set_53 ?_
      refine gf_0_2 C P rfl wd_210 dX5_set_54 ?_
      refine r_aload_n C hl 1 rfl rfl dX5_set_57 ?_
      refine gf_0_0 C P rfl wd_208 dX5_set_58 ?_
      refine r_cVv C P cf_X5_53 (rm := rmX0_push) 14 0 (fun _ _ => ⟨_, rfl⟩) rfl rfl rfl [.ref (rA G 1 0)] [] hf (fun _ _ h => ctX0_push l G o 0 rfl h) ⟨rfl, rfl⟩ ⟨Nat.le_of_ble_eq_true rfl, Nat.le_of_ble_eq_true rfl⟩ ⟨Nat.zero_le _, Nat.zero_le _⟩ rfl rfl hl.1 (Nat.le_of_ble_eq_true rfl) dX5_set_61 (fun _ o_5 H1 L1 P hf => ?_)
      refine r_aload_n C hl 1 rfl rfl dX5_set_64 ?_
      refine gf_0_0 C P rfl wd_208 dX5_set_65 ?_
      refine gf_1_6 C P rfl wd_146 dX5_set_68 ?_
      refine r_iload_n C hl 2 rfl rfl dX5_set_71 ?_
      refine r_iload_n C hl 3 rfl rfl dX5_set_72 ?_
      refine r_iast C P (k := 3) (i := 0) (n := 7) (fun _ _ => rfl) rfl dX5_set_73 hf (fun o_6 H1 L1 P hf => ?_)
      refine r_iload_n C hl 0 rfl rfl dX5_set_74 ?_
      exact x_iret C P dX5_set_75 hf
    · exact x_throw C E0 X hl9 P (E := "java/lang/IllegalArgumentException") (tx := "value is out of range") (ik := 37) (is := 111) (ic := 41) ⟨rfl, by decide, by decide, wd_322, wd_19, th_1a, th_1b, th_1c, by decide⟩ (rm := rmX5_set) ⟨Nat.le_of_ble_eq_true rfl, Nat.le_of_ble_eq_true rfl⟩ hl.1 eX5_set_33 eX5_set_36 eX5_set_37 eX5_set_39 eX5_set_42 hf
  · exact x_throw C E0 X hl9 P (E := "java/lang/IndexOutOfBoundsException") (tx := "no such setting") (ik := 103) (is := 105) (ic := 107) ⟨rfl, by decide, by decide, wd_408, wd_22, th_3a, th_3b, th_3c, by decide⟩ (rm := rmX5_set) ⟨Nat.le_of_ble_eq_true rfl, Nat.le_of_ble_eq_true rfl⟩ hl.1 eX5_set_10 eX5_set_13 eX5_set_14 eX5_set_16 eX5_set_19 hf
theorem ctX5_set (l : Launch) (G : Gd) (hl9 : l.stackTraces = false) (o : OM) (v1 : Int32) (v2 : Int32)  {r : (Nat × Int32)} {o9 : OM} (hf : F_X5_set o v1 v2 = some (r, o9)) : Cte l yX5_set cX5_set 4 (some .int) rmX5_set G [.ref (rA G 0 0), .int v1, .int v2] o r.1 (some (.int r.2)) o9 := cte_of (by decide +kernel) (Nat.le_of_ble_eq_true rfl) (fun p e s m below meth c ls C E0 X P hl => wX5_set C E0 X hl9  P hl hf)
theorem cf_X5_116 : CallF false RX5 116 yX3_reasonNotToMeasure cX3_reasonNotToMeasure 2 (some .int) 1 := ⟨wd_476, (by rw [if_neg (by decide)]; exact ⟨wd_477, wd_478⟩), wd_12, wd_479, by decide, by decide +kernel⟩
theorem cf_X5_122 : CallF false RX5 122 yX3_addPoint cX3_addPoint 3 none 2 := ⟨wd_493, (by rw [if_neg (by decide)]; exact ⟨wd_494, wd_495⟩), wd_12, wd_496, by decide, by decide +kernel⟩
theorem dX5_measure_0 : Dc cX5_measure 0 (.aload_n 0) 1 1 := ⟨by decide +kernel, rfl⟩
theorem dX5_measure_1 : Dc cX5_measure 1 (.iload_n 1) 1 2 := ⟨by decide +kernel, rfl⟩
theorem dX5_measure_2 : Dc cX5_measure 2 (.invokevirtual 65) 3 5 := ⟨by decide +kernel, rfl⟩
theorem dX5_measure_5 : Dc cX5_measure 5 (.iload_n 2) 1 6 := ⟨by decide +kernel, rfl⟩
theorem dX5_measure_6 : Dc cX5_measure 6 (.invokestatic 85) 3 9 := ⟨by decide +kernel, rfl⟩
theorem dX5_measure_9 : Dc cX5_measure 9 (.aload_n 0) 1 10 := ⟨by decide +kernel, rfl⟩
theorem dX5_measure_10 : Dc cX5_measure 10 (.getfield 10) 3 13 := ⟨by decide +kernel, rfl⟩
theorem dX5_measure_13 : Dc cX5_measure 13 (.getfield 69) 3 16 := ⟨by decide +kernel, rfl⟩
theorem dX5_measure_16 : Dc cX5_measure 16 (.iload_n 1) 1 17 := ⟨by decide +kernel, rfl⟩
theorem dX5_measure_17 : Dc cX5_measure 17 (.aaload) 1 18 := ⟨by decide +kernel, rfl⟩
theorem dX5_measure_18 : Dc cX5_measure 18 (.astore_n 3) 1 19 := ⟨by decide +kernel, rfl⟩
theorem dX5_measure_19 : Dc cX5_measure 19 (.aload_n 0) 1 20 := ⟨by decide +kernel, rfl⟩
theorem dX5_measure_20 : Dc cX5_measure 20 (.getfield 10) 3 23 := ⟨by decide +kernel, rfl⟩
theorem dX5_measure_23 : Dc cX5_measure 23 (.getfield 91) 3 26 := ⟨by decide +kernel, rfl⟩
theorem dX5_measure_26 : Dc cX5_measure 26 (.iload_n 2) 1 27 := ⟨by decide +kernel, rfl⟩
theorem dX5_measure_27 : Dc cX5_measure 27 (.iaload) 1 28 := ⟨by decide +kernel, rfl⟩
theorem dX5_measure_28 : Dc cX5_measure 28 (.istore 4) 2 30 := ⟨by decide +kernel, rfl⟩
theorem dX5_measure_30 : Dc cX5_measure 30 (.aload_n 3) 1 31 := ⟨by decide +kernel, rfl⟩
theorem dX5_measure_31 : Dc cX5_measure 31 (.iload 4) 2 33 := ⟨by decide +kernel, rfl⟩
theorem dX5_measure_33 : Dc cX5_measure 33 (.invokevirtual 116) 3 36 := ⟨by decide +kernel, rfl⟩
theorem dX5_measure_36 : Dj cX5_measure 36 (.ifCond .eq 13) 3 39 (13) 49 := ⟨by decide +kernel, rfl, by decide⟩
theorem dX5_measure_49 : Dc cX5_measure 49 (.aload_n 0) 1 50 := ⟨by decide +kernel, rfl⟩
theorem dX5_measure_50 : Dc cX5_measure 50 (.getfield 22) 3 53 := ⟨by decide +kernel, rfl⟩
theorem dX5_measure_53 : Dc cX5_measure 53 (.aload_n 0) 1 54 := ⟨by decide +kernel, rfl⟩
theorem dX5_measure_54 : Dc cX5_measure 54 (.getfield 10) 3 57 := ⟨by decide +kernel, rfl⟩
theorem dX5_measure_57 : Dc cX5_measure 57 (.invokevirtual 53) 3 60 := ⟨by decide +kernel, rfl⟩
theorem dX5_measure_60 : Dc cX5_measure 60 (.aload_n 3) 1 61 := ⟨by decide +kernel, rfl⟩
theorem dX5_measure_61 : Dc cX5_measure 61 (.iload 4) 2 63 := ⟨by decide +kernel, rfl⟩
theorem dX5_measure_63 : Dc cX5_measure 63 (.aload_n 0) 1 64 := ⟨by decide +kernel, rfl⟩
theorem dX5_measure_64 : Dc cX5_measure 64 (.getfield 10) 3 67 := ⟨by decide +kernel, rfl⟩
theorem dX5_measure_67 : Dc cX5_measure 67 (.getfield 100) 3 70 := ⟨by decide +kernel, rfl⟩
theorem dX5_measure_70 : Dc cX5_measure 70 (.invokevirtual 122) 3 73 := ⟨by decide +kernel, rfl⟩
theorem dX5_measure_73 : Dc cX5_measure 73 (.aload_n 3) 1 74 := ⟨by decide +kernel, rfl⟩
theorem dX5_measure_74 : Dc cX5_measure 74 (.getfield 73) 3 77 := ⟨by decide +kernel, rfl⟩
theorem dX5_measure_77 : Dc cX5_measure 77 (.getfield 79) 3 80 := ⟨by decide +kernel, rfl⟩
theorem dX5_measure_80 : Dc cX5_measure 80 (.ireturn) 1 81 := ⟨by decide +kernel, rfl⟩
theorem eX5_measure_39 : decode cX5_measure 39 = .ok (.new 48, 3) := by decide +kernel
theorem eX5_measure_42 : decode cX5_measure 42 = .ok (.dup, 1) := by decide +kernel
theorem eX5_measure_43 : decode cX5_measure 43 = .ok (.ldc 120, 2) := by decide +kernel
theorem eX5_measure_45 : decode cX5_measure 45 = .ok (.invokespecial 52, 3) := by decide +kernel
theorem eX5_measure_48 : decode cX5_measure 48 = .ok (.athrow, 1) := by decide +kernel
def F_X5_measure (o : OM) (v1 : Int32) (v2 : Int32) : Option ((Nat × Int32) × OM) := bx (F_X5_needThermometer o v1) (0 : Int32) (fun _ o_2 => bx (F_X5_needBath o_2 v2) (0 : Int32) (fun _ o_4 => grd (inB v1 6) (bd (tid 0 (rd o_4 4 0 v1.toNatClampNeg)) (fun t_5 : Nat => grd (inB v2 4) (bd (rd o_4 2 0 v2.toNatClampNeg) (fun v4_6 : Int32 => bq (F_X3_reasonNotToMeasure o_4 t_5 v4_6) (fun r_7 => if r_7 = 0 then (bn (F_X0_push o_4 0) (fun _ o_9 => bn (F_X3_addPoint o_9 t_5 v4_6 (rd o_9 1 0 0)) (fun _ o_11 => some ((0, (rd o_11 6 t_5 0)), o_11)))) else (some ((2, 0), o_4)))))))))
abbrev rmX5_measure : Room := { frames := 7, cells := 0, slots := 0, locals := 125 }
set_option maxHeartbeats 4000000 in
set_option maxRecDepth 100000 in
theorem wX5_measure {G : Gd} {p : Program} {l : Launch} {e : Env} {s : State} {m : MethodId} {args : Array Value} {below : List Frame} {meth : Method} {c : Code} {o : OM} {H : Heap} {L0 : List Loc} {ls : Array Slot} {r : (Nat × Int32)} {o9 : OM} {v1 : Int32} {v2 : Int32} (C : Cx G RX5 cX5_measure 5 (some .int) p s m args meth c) (E0 : Cex c) (X : XF G s) (hl9 : l.stackTraces = false)  (P : Hp G o s H L0) (hl : lv_has ls 5 [(0, .ref (rA G 0 0)), (1, .int v1), (2, .int v2)]) (hf : F_X5_measure o v1 v2 = some (r, o9)) : W p l e (rmx rmX5_measure r.1) s m args below meth c H L0 0 0 (Qxm G r.1 (some (.int r.2)) o9 below args s) (F0 m 0 ls []) := by
  unfold F_X5_measure at hf
  refine r_aload_n C hl 0 rfl rfl dX5_measure_0 ?_
  refine r_iload_n C hl 1 rfl rfl dX5_measure_1 ?_
  refine x_cVv C E0 X P cf_X5_65 (rm := rmX5_needThermometer) (rm9 := rmX5_measure) 0 0 (fun _ _ => ⟨_, rfl⟩) rfl rfl rfl [.int v1] [] hf (fun _ _ h => ctX5_needThermometer l G hl9 o v1 h) ⟨Nat.le_of_ble_eq_true rfl, Nat.le_of_ble_eq_true rfl⟩ rfl rfl hl.1 (Nat.le_of_ble_eq_true rfl) dX5_measure_2 (fun _ o_2 H1 L1 P hf => ?_)
  refine r_iload_n C hl 2 rfl rfl dX5_measure_5 ?_
  refine x_cSv C E0 X P cf_X5_85 (rm := rmX5_needBath) (rm9 := rmX5_measure) [.int v2] [] hf (fun _ _ h => ctX5_needBath l G hl9 o_2 v2 h) ⟨Nat.le_of_ble_eq_true rfl, Nat.le_of_ble_eq_true rfl⟩ rfl rfl hl.1 (Nat.le_of_ble_eq_true rfl) dX5_measure_6 (fun _ o_4 H1 L1 P hf => ?_)
  refine r_aload_n C hl 0 rfl rfl dX5_measure_9 ?_
  refine gf_0_0 C P rfl wd_208 dX5_measure_10 ?_
  refine gf_1_7 C P rfl wd_148 dX5_measure_13 ?_
  refine r_iload_n C hl 1 rfl rfl dX5_measure_16 ?_
  refine r_aldT C P rfl dX5_measure_17 hf (fun t_5 ht_5 hf => ?_)
  refine r_astore_n C [(3, .ref (rA G 5 t_5)), (0, .ref (rA G 0 0)), (1, .int v1), (2, .int v2)] hl (by decide) rfl rfl dX5_measure_18 (fun ls hl => ?_)
  refine r_aload_n C hl 1 rfl rfl dX5_measure_19 ?_
  refine gf_0_0 C P rfl wd_208 dX5_measure_20 ?_
  refine gf_1_5 C P rfl wd_144 dX5_measure_23 ?_
  refine r_iload_n C hl 3 rfl rfl dX5_measure_26 ?_
  refine r_iald C P (k := 2) (i := 0) (n := 4) (fun _ _ => rfl) rfl dX5_measure_27 hf (fun hf => ?_)
  refine r_bdi hf (fun v4_6 hf => ?_)
  refine r_istore C [(4, .int v4_6), (3, .ref (rA G 5 t_5)), (0, .ref (rA G 0 0)), (1, .int v1), (2, .int v2)] hl (by decide) rfl dX5_measure_28 (fun ls hl => ?_)
  refine r_aload_n C hl 1 rfl rfl dX5_measure_30 ?_
  refine r_iload C hl 0 rfl dX5_measure_31 ?_
  refine r_qVi C P cf_X5_116 (rm := rmX3_reasonNotToMeasure) 5 t_5 (fun _ _ => ⟨_, rfl⟩) rfl rfl ht_5 [.int v4_6] [] hf (fun _ h => ctX3_reasonNotToMeasure l G o_4 t_5 v4_6 ht_5 h) ⟨rfl, rfl⟩ ⟨Nat.le_of_ble_eq_true rfl, Nat.le_of_ble_eq_true rfl⟩ ⟨Nat.zero_le _, Nat.zero_le _⟩ rfl rfl hl.1 (Nat.le_of_ble_eq_true rfl) dX5_measure_33 (fun r_7 H1 L1 P hf => ?_)
  refine r_if_eq C dX5_measure_36 hf (fun hf => ?_) (fun hf => ?_)
  · refine r_aload_n C hl 2 rfl rfl dX5_measure_49 ?_
    refine gf_0_2 C P rfl wd_210 dX5_measure_50 ?_
    refine r_aload_n C hl 2 rfl rfl dX5_measure_53 ?_
    refine gf_0_0 C P rfl wd_208 dX5_measure_54 ?_
    refine r_cVv C P cf_X5_53 (rm := rmX0_push) 14 0 (fun _ _ => ⟨_, rfl⟩) rfl rfl rfl [.ref (rA G 1 0)] [] hf (fun _ _ h => ctX0_push l G o_4 0 rfl h) ⟨rfl, rfl⟩ ⟨Nat.le_of_ble_eq_true rfl, Nat.le_of_ble_eq_true rfl⟩ ⟨Nat.zero_le _, Nat.zero_le _⟩ rfl rfl hl.1 (Nat.le_of_ble_eq_true rfl) dX5_measure_57 (fun _ o_9 H1 L1 P hf => ?_)
    refine r_aload_n C hl 1 rfl rfl dX5_measure_60 ?_
    refine r_iload C hl 0 rfl dX5_measure_61 ?_
    refine r_aload_n C hl 2 rfl rfl dX5_measure_63 ?_
    refine gf_0_0 C P rfl wd_208 dX5_measure_64 ?_
    refine gf_1_0 C P rfl wd_134 dX5_measure_67 ?_
    refine r_cVv C P cf_X5_122 (rm := rmX3_addPoint) 5 t_5 (fun _ _ => ⟨_, rfl⟩) rfl rfl ht_5 [.int v4_6, .int (rd o_9 1 0 0)] [] hf (fun _ _ h => ctX3_addPoint l G o_9 t_5 v4_6 (rd o_9 1 0 0) ht_5 h) ⟨rfl, rfl⟩ ⟨Nat.le_of_ble_eq_true rfl, Nat.le_of_ble_eq_true rfl⟩ ⟨Nat.zero_le _, Nat.zero_le _⟩ rfl rfl hl.1 (Nat.le_of_ble_eq_true rfl) dX5_measure_70 (fun _ o_11 H1 L1 P hf => ?_)
    refine r_aload_n C hl 1 rfl rfl dX5_measure_73 ?_
    refine gf_5_7 C P ht_5 wd_114 dX5_measure_74 ?_
    refine gf_6_0 C P ht_5 wd_64 dX5_measure_77 ?_
    exact x_iret C P dX5_measure_80 hf
  · exact x_throw C E0 X hl9 P (E := "java/lang/IllegalStateException") (tx := "it cannot be measured") (ik := 48) (is := 120) (ic := 52) ⟨rfl, by decide, by decide, wd_227, wd_20, th_2a, th_2b, th_2c, by decide⟩ (rm := rmX5_measure) ⟨Nat.le_of_ble_eq_true rfl, Nat.le_of_ble_eq_true rfl⟩ hl.1 eX5_measure_39 eX5_measure_42 eX5_measure_43 eX5_measure_45 eX5_measure_48 hf
theorem ctX5_measure (l : Launch) (G : Gd) (hl9 : l.stackTraces = false) (o : OM) (v1 : Int32) (v2 : Int32)  {r : (Nat × Int32)} {o9 : OM} (hf : F_X5_measure o v1 v2 = some (r, o9)) : Cte l yX5_measure cX5_measure 5 (some .int) rmX5_measure G [.ref (rA G 0 0), .int v1, .int v2] o r.1 (some (.int r.2)) o9 := cte_of (by decide +kernel) (Nat.le_of_ble_eq_true rfl) (fun p e s m below meth c ls C E0 X P hl => wX5_measure C E0 X hl9  P hl hf)
theorem cf_X5_126 : CallF false RX5 126 yX1_dropDegree cX1_dropDegree 5 (some .boolean) 1 := ⟨wd_519, (by rw [if_neg (by decide)]; exact ⟨wd_498, wd_499⟩), wd_13, wd_500, by decide, by decide +kernel⟩
theorem dX5_forget_0 : Dc cX5_forget 0 (.aload_n 0) 1 1 := ⟨by decide +kernel, rfl⟩
theorem dX5_forget_1 : Dc cX5_forget 1 (.iload_n 1) 1 2 := ⟨by decide +kernel, rfl⟩
theorem dX5_forget_2 : Dc cX5_forget 2 (.invokevirtual 65) 3 5 := ⟨by decide +kernel, rfl⟩
theorem dX5_forget_5 : Dc cX5_forget 5 (.iload_n 2) 1 6 := ⟨by decide +kernel, rfl⟩
theorem dX5_forget_6 : Dc cX5_forget 6 (.invokestatic 88) 3 9 := ⟨by decide +kernel, rfl⟩
theorem dX5_forget_9 : Dc cX5_forget 9 (.aload_n 0) 1 10 := ⟨by decide +kernel, rfl⟩
theorem dX5_forget_10 : Dc cX5_forget 10 (.getfield 22) 3 13 := ⟨by decide +kernel, rfl⟩
theorem dX5_forget_13 : Dc cX5_forget 13 (.aload_n 0) 1 14 := ⟨by decide +kernel, rfl⟩
theorem dX5_forget_14 : Dc cX5_forget 14 (.getfield 10) 3 17 := ⟨by decide +kernel, rfl⟩
theorem dX5_forget_17 : Dc cX5_forget 17 (.invokevirtual 53) 3 20 := ⟨by decide +kernel, rfl⟩
theorem dX5_forget_20 : Dc cX5_forget 20 (.aload_n 0) 1 21 := ⟨by decide +kernel, rfl⟩
theorem dX5_forget_21 : Dc cX5_forget 21 (.getfield 10) 3 24 := ⟨by decide +kernel, rfl⟩
theorem dX5_forget_24 : Dc cX5_forget 24 (.getfield 69) 3 27 := ⟨by decide +kernel, rfl⟩
theorem dX5_forget_27 : Dc cX5_forget 27 (.iload_n 1) 1 28 := ⟨by decide +kernel, rfl⟩
theorem dX5_forget_28 : Dc cX5_forget 28 (.aaload) 1 29 := ⟨by decide +kernel, rfl⟩
theorem dX5_forget_29 : Dc cX5_forget 29 (.getfield 73) 3 32 := ⟨by decide +kernel, rfl⟩
theorem dX5_forget_32 : Dc cX5_forget 32 (.iload_n 2) 1 33 := ⟨by decide +kernel, rfl⟩
theorem dX5_forget_33 : Dc cX5_forget 33 (.invokevirtual 126) 3 36 := ⟨by decide +kernel, rfl⟩
theorem dX5_forget_36 : Dj cX5_forget 36 (.ifCond .eq 7) 3 39 (7) 43 := ⟨by decide +kernel, rfl, by decide⟩
theorem dX5_forget_39 : Dc cX5_forget 39 (.iconst 1) 1 40 := ⟨by decide +kernel, rfl⟩
theorem dX5_forget_40 : Dj cX5_forget 40 (.goto 4) 3 43 (4) 44 := ⟨by decide +kernel, rfl, by decide⟩
theorem dX5_forget_43 : Dc cX5_forget 43 (.iconst 0) 1 44 := ⟨by decide +kernel, rfl⟩
theorem dX5_forget_44 : Dc cX5_forget 44 (.ireturn) 1 45 := ⟨by decide +kernel, rfl⟩
def F_X5_forget (o : OM) (v1 : Int32) (v2 : Int32) : Option ((Nat × Int32) × OM) := bx (F_X5_needThermometer o v1) (0 : Int32) (fun _ o_2 => bx (F_X5_needDegree o_2 v2) (0 : Int32) (fun _ o_4 => bn (F_X0_push o_4 0) (fun _ o_6 => grd (inB v1 6) (bd (tid 0 (rd o_6 4 0 v1.toNatClampNeg)) (fun t_7 : Nat => bn (F_X1_dropDegree o_6 t_7 v2) (fun r_8 o_9 => bd (fun (s_10 : Int32) => some ((0, s_10), o_9)) (fun k44 => if r_8 = 0 then (k44 ((0 : Int32))) else (k44 ((1 : Int32))))))))))
abbrev rmX5_forget : Room := { frames := 7, cells := 0, slots := 0, locals := 125 }
set_option maxHeartbeats 4000000 in
set_option maxRecDepth 100000 in
theorem wX5_forget {G : Gd} {p : Program} {l : Launch} {e : Env} {s : State} {m : MethodId} {args : Array Value} {below : List Frame} {meth : Method} {c : Code} {o : OM} {H : Heap} {L0 : List Loc} {ls : Array Slot} {r : (Nat × Int32)} {o9 : OM} {v1 : Int32} {v2 : Int32} (C : Cx G RX5 cX5_forget 3 (some .int) p s m args meth c) (E0 : Cex c) (X : XF G s) (hl9 : l.stackTraces = false)  (P : Hp G o s H L0) (hl : lv_has ls 3 [(0, .ref (rA G 0 0)), (1, .int v1), (2, .int v2)]) (hf : F_X5_forget o v1 v2 = some (r, o9)) : W p l e (rmx rmX5_forget r.1) s m args below meth c H L0 0 0 (Qxm G r.1 (some (.int r.2)) o9 below args s) (F0 m 0 ls []) := by
  unfold F_X5_forget at hf
  refine r_aload_n C hl 0 rfl rfl dX5_forget_0 ?_
  refine r_iload_n C hl 1 rfl rfl dX5_forget_1 ?_
  refine x_cVv C E0 X P cf_X5_65 (rm := rmX5_needThermometer) (rm9 := rmX5_forget) 0 0 (fun _ _ => ⟨_, rfl⟩) rfl rfl rfl [.int v1] [] hf (fun _ _ h => ctX5_needThermometer l G hl9 o v1 h) ⟨Nat.le_of_ble_eq_true rfl, Nat.le_of_ble_eq_true rfl⟩ rfl rfl hl.1 (Nat.le_of_ble_eq_true rfl) dX5_forget_2 (fun _ o_2 H1 L1 P hf => ?_)
  refine r_iload_n C hl 2 rfl rfl dX5_forget_5 ?_
  refine x_cSv C E0 X P cf_X5_88 (rm := rmX5_needDegree) (rm9 := rmX5_forget) [.int v2] [] hf (fun _ _ h => ctX5_needDegree l G hl9 o_2 v2 h) ⟨Nat.le_of_ble_eq_true rfl, Nat.le_of_ble_eq_true rfl⟩ rfl rfl hl.1 (Nat.le_of_ble_eq_true rfl) dX5_forget_6 (fun _ o_4 H1 L1 P hf => ?_)
  refine r_aload_n C hl 0 rfl rfl dX5_forget_9 ?_
  refine gf_0_2 C P rfl wd_210 dX5_forget_10 ?_
  refine r_aload_n C hl 0 rfl rfl dX5_forget_13 ?_
  refine gf_0_0 C P rfl wd_208 dX5_forget_14 ?_
  refine r_cVv C P cf_X5_53 (rm := rmX0_push) 14 0 (fun _ _ => ⟨_, rfl⟩) rfl rfl rfl [.ref (rA G 1 0)] [] hf (fun _ _ h => ctX0_push l G o_4 0 rfl h) ⟨rfl, rfl⟩ ⟨Nat.le_of_ble_eq_true rfl, Nat.le_of_ble_eq_true rfl⟩ ⟨Nat.zero_le _, Nat.zero_le _⟩ rfl rfl hl.1 (Nat.le_of_ble_eq_true rfl) dX5_forget_17 (fun _ o_6 H1 L1 P hf => ?_)
  refine r_aload_n C hl 0 rfl rfl dX5_forget_20 ?_
  refine gf_0_0 C P rfl wd_208 dX5_forget_21 ?_
  refine gf_1_7 C P rfl wd_148 dX5_forget_24 ?_
  refine r_iload_n C hl 1 rfl rfl dX5_forget_27 ?_
  refine r_aldT C P rfl dX5_forget_28 hf (fun t_7 ht_7 hf => ?_)
  refine gf_5_7 C P ht_7 wd_114 dX5_forget_29 ?_
  refine r_iload_n C hl 2 rfl rfl dX5_forget_32 ?_
  refine r_cVi C P cf_X5_126 (rm := rmX1_dropDegree) 6 t_7 (fun _ _ => ⟨_, rfl⟩) rfl rfl ht_7 [.int v2] [] hf (fun _ _ h => ctX1_dropDegree l G o_6 t_7 v2 ht_7 h) ⟨rfl, rfl⟩ ⟨Nat.le_of_ble_eq_true rfl, Nat.le_of_ble_eq_true rfl⟩ ⟨Nat.zero_le _, Nat.zero_le _⟩ rfl rfl hl.1 (Nat.le_of_ble_eq_true rfl) dX5_forget_33 (fun r_8 o_9 H1 L1 P hf => ?_)
  refine r_jn (fun k44 : Int32 → Option ((Nat × Int32) × OM) => ∀ (s_10 : Int32) H1 L1 ls, Hp G o_9 s H1 L1 → lv_has ls 3 [] → k44 s_10 = some (r, o9) → W p l e (rmx rmX5_forget r.1) s m args below meth c H1 L1 0 0 (Qxm G r.1 (some (.int r.2)) o9 below args s) (F0 m 44 ls [.int s_10])) hf ?_ (fun k44 j44 hf => ?_)
  · intro s_10 H1 L1 ls  P hl hf
    exact x_iret C P dX5_forget_44 hf
  refine r_if_eq C dX5_forget_36 hf (fun hf => ?_) (fun hf => ?_)
  · refine r_iconst C (v := 0) (by decide) dX5_forget_43 ?_
    exact j44 ((0 : Int32)) _ _ _ P (lv_sub hl [] rfl) hf
  · refine r_iconst C (v := 1) (by decide) dX5_forget_39 ?_
    refine r_goto C dX5_forget_40 ?_
    exact j44 ((1 : Int32)) _ _ _ P (lv_sub hl [] rfl) hf
theorem ctX5_forget (l : Launch) (G : Gd) (hl9 : l.stackTraces = false) (o : OM) (v1 : Int32) (v2 : Int32)  {r : (Nat × Int32)} {o9 : OM} (hf : F_X5_forget o v1 v2 = some (r, o9)) : Cte l yX5_forget cX5_forget 3 (some .int) rmX5_forget G [.ref (rA G 0 0), .int v1, .int v2] o r.1 (some (.int r.2)) o9 := cte_of (by decide +kernel) (Nat.le_of_ble_eq_true rfl) (fun p e s m below meth c ls C E0 X P hl => wX5_forget C E0 X hl9  P hl hf)
theorem cf_X5_130 : CallF false RX5 130 yX2_reasonForNoPaper cX2_reasonForNoPaper 6 (some .int) 1 := ⟨wd_524, (by rw [if_neg (by decide)]; exact ⟨wd_525, wd_526⟩), wd_11, wd_527, by decide, by decide +kernel⟩
theorem cf_X5_136 : CallF false RX5 136 yX2_giveSeal cX2_giveSeal 2 none 1 := ⟨wd_558, (by rw [if_neg (by decide)]; exact ⟨wd_559, wd_560⟩), wd_11, wd_561, by decide, by decide +kernel⟩
theorem dX5_paper_0 : Dc cX5_paper 0 (.aload_n 0) 1 1 := ⟨by decide +kernel, rfl⟩
theorem dX5_paper_1 : Dc cX5_paper 1 (.iload_n 1) 1 2 := ⟨by decide +kernel, rfl⟩
theorem dX5_paper_2 : Dc cX5_paper 2 (.invokevirtual 65) 3 5 := ⟨by decide +kernel, rfl⟩
theorem dX5_paper_5 : Dc cX5_paper 5 (.aload_n 0) 1 6 := ⟨by decide +kernel, rfl⟩
theorem dX5_paper_6 : Dc cX5_paper 6 (.getfield 10) 3 9 := ⟨by decide +kernel, rfl⟩
theorem dX5_paper_9 : Dc cX5_paper 9 (.getfield 69) 3 12 := ⟨by decide +kernel, rfl⟩
theorem dX5_paper_12 : Dc cX5_paper 12 (.iload_n 1) 1 13 := ⟨by decide +kernel, rfl⟩
theorem dX5_paper_13 : Dc cX5_paper 13 (.aaload) 1 14 := ⟨by decide +kernel, rfl⟩
theorem dX5_paper_14 : Dc cX5_paper 14 (.astore_n 2) 1 15 := ⟨by decide +kernel, rfl⟩
theorem dX5_paper_15 : Dc cX5_paper 15 (.aload_n 0) 1 16 := ⟨by decide +kernel, rfl⟩
theorem dX5_paper_16 : Dc cX5_paper 16 (.getfield 10) 3 19 := ⟨by decide +kernel, rfl⟩
theorem dX5_paper_19 : Dc cX5_paper 19 (.aload_n 2) 1 20 := ⟨by decide +kernel, rfl⟩
theorem dX5_paper_20 : Dc cX5_paper 20 (.invokevirtual 130) 3 23 := ⟨by decide +kernel, rfl⟩
theorem dX5_paper_23 : Dj cX5_paper 23 (.ifCond .eq 13) 3 26 (13) 36 := ⟨by decide +kernel, rfl, by decide⟩
theorem dX5_paper_36 : Dc cX5_paper 36 (.aload_n 0) 1 37 := ⟨by decide +kernel, rfl⟩
theorem dX5_paper_37 : Dc cX5_paper 37 (.getfield 22) 3 40 := ⟨by decide +kernel, rfl⟩
theorem dX5_paper_40 : Dc cX5_paper 40 (.aload_n 0) 1 41 := ⟨by decide +kernel, rfl⟩
theorem dX5_paper_41 : Dc cX5_paper 41 (.getfield 10) 3 44 := ⟨by decide +kernel, rfl⟩
theorem dX5_paper_44 : Dc cX5_paper 44 (.invokevirtual 53) 3 47 := ⟨by decide +kernel, rfl⟩
theorem dX5_paper_47 : Dc cX5_paper 47 (.aload_n 0) 1 48 := ⟨by decide +kernel, rfl⟩
theorem dX5_paper_48 : Dc cX5_paper 48 (.getfield 10) 3 51 := ⟨by decide +kernel, rfl⟩
theorem dX5_paper_51 : Dc cX5_paper 51 (.aload_n 2) 1 52 := ⟨by decide +kernel, rfl⟩
theorem dX5_paper_52 : Dc cX5_paper 52 (.invokevirtual 136) 3 55 := ⟨by decide +kernel, rfl⟩
theorem dX5_paper_55 : Dc cX5_paper 55 (.aload_n 2) 1 56 := ⟨by decide +kernel, rfl⟩
theorem dX5_paper_56 : Dc cX5_paper 56 (.getfield 140) 3 59 := ⟨by decide +kernel, rfl⟩
theorem dX5_paper_59 : Dc cX5_paper 59 (.ireturn) 1 60 := ⟨by decide +kernel, rfl⟩
theorem eX5_paper_26 : decode cX5_paper 26 = .ok (.new 48, 3) := by decide +kernel
theorem eX5_paper_29 : decode cX5_paper 29 = .ok (.dup, 1) := by decide +kernel
theorem eX5_paper_30 : decode cX5_paper 30 = .ok (.ldc 134, 2) := by decide +kernel
theorem eX5_paper_32 : decode cX5_paper 32 = .ok (.invokespecial 52, 3) := by decide +kernel
theorem eX5_paper_35 : decode cX5_paper 35 = .ok (.athrow, 1) := by decide +kernel
def F_X5_paper (o : OM) (v1 : Int32) : Option ((Nat × Int32) × OM) := bx (F_X5_needThermometer o v1) (0 : Int32) (fun _ o_2 => grd (inB v1 6) (bd (tid 0 (rd o_2 4 0 v1.toNatClampNeg)) (fun t_3 : Nat => bq (F_X2_reasonForNoPaper o_2 0 t_3) (fun r_4 => if r_4 = 0 then (bn (F_X0_push o_2 0) (fun _ o_6 => bn (F_X2_giveSeal o_6 0 t_3) (fun _ o_8 => some ((0, (rd o_8 5 t_3 5)), o_8)))) else (some ((2, 0), o_2))))))
abbrev rmX5_paper : Room := { frames := 7, cells := 0, slots := 0, locals := 125 }
set_option maxHeartbeats 4000000 in
set_option maxRecDepth 100000 in
theorem wX5_paper {G : Gd} {p : Program} {l : Launch} {e : Env} {s : State} {m : MethodId} {args : Array Value} {below : List Frame} {meth : Method} {c : Code} {o : OM} {H : Heap} {L0 : List Loc} {ls : Array Slot} {r : (Nat × Int32)} {o9 : OM} {v1 : Int32} (C : Cx G RX5 cX5_paper 3 (some .int) p s m args meth c) (E0 : Cex c) (X : XF G s) (hl9 : l.stackTraces = false)  (P : Hp G o s H L0) (hl : lv_has ls 3 [(0, .ref (rA G 0 0)), (1, .int v1)]) (hf : F_X5_paper o v1 = some (r, o9)) : W p l e (rmx rmX5_paper r.1) s m args below meth c H L0 0 0 (Qxm G r.1 (some (.int r.2)) o9 below args s) (F0 m 0 ls []) := by
  unfold F_X5_paper at hf
  refine r_aload_n C hl 0 rfl rfl dX5_paper_0 ?_
  refine r_iload_n C hl 1 rfl rfl dX5_paper_1 ?_
  refine x_cVv C E0 X P cf_X5_65 (rm := rmX5_needThermometer) (rm9 := rmX5_paper) 0 0 (fun _ _ => ⟨_, rfl⟩) rfl rfl rfl [.int v1] [] hf (fun _ _ h => ctX5_needThermometer l G hl9 o v1 h) ⟨Nat.le_of_ble_eq_true rfl, Nat.le_of_ble_eq_true rfl⟩ rfl rfl hl.1 (Nat.le_of_ble_eq_true rfl) dX5_paper_2 (fun _ o_2 H1 L1 P hf => ?_)
  refine r_aload_n C hl 0 rfl rfl dX5_paper_5 ?_
  refine gf_0_0 C P rfl wd_208 dX5_paper_6 ?_
  refine gf_1_7 C P rfl wd_148 dX5_paper_9 ?_
  refine r_iload_n C hl 1 rfl rfl dX5_paper_12 ?_
  refine r_aldT C P rfl dX5_paper_13 hf (fun t_3 ht_3 hf => ?_)
  refine r_astore_n C [(2, .ref (rA G 5 t_3)), (0, .ref (rA G 0 0)), (1, .int v1)] hl (by decide) rfl rfl dX5_paper_14 (fun ls hl => ?_)
  refine r_aload_n C hl 1 rfl rfl dX5_paper_15 ?_
  refine gf_0_0 C P rfl wd_208 dX5_paper_16 ?_
  refine r_aload_n C hl 0 rfl rfl dX5_paper_19 ?_
  refine r_qVi C P cf_X5_130 (rm := rmX2_reasonForNoPaper) 1 0 (fun _ _ => ⟨_, rfl⟩) rfl rfl rfl [.ref (rA G 5 t_3)] [] hf (fun _ h => ctX2_reasonForNoPaper l G o_2 0 t_3 rfl ht_3 h) ⟨rfl, rfl⟩ ⟨Nat.le_of_ble_eq_true rfl, Nat.le_of_ble_eq_true rfl⟩ ⟨Nat.zero_le _, Nat.zero_le _⟩ rfl rfl hl.1 (Nat.le_of_ble_eq_true rfl) dX5_paper_20 (fun r_4 H1 L1 P hf => ?_)
  refine r_if_eq C dX5_paper_23 hf (fun hf => ?_) (fun hf => ?_)
  · refine r_aload_n C hl 1 rfl rfl dX5_paper_36 ?_
    refine gf_0_2 C P rfl wd_210 dX5_paper_37 ?_
    refine r_aload_n C hl 1 rfl rfl dX5_paper_40 ?_
    refine gf_0_0 C P rfl wd_208 dX5_paper_41 ?_
    refine r_cVv C P cf_X5_53 (rm := rmX0_push) 14 0 (fun _ _ => ⟨_, rfl⟩) rfl rfl rfl [.ref (rA G 1 0)] [] hf (fun _ _ h => ctX0_push l G o_2 0 rfl h) ⟨rfl, rfl⟩ ⟨Nat.le_of_ble_eq_true rfl, Nat.le_of_ble_eq_true rfl⟩ ⟨Nat.zero_le _, Nat.zero_le _⟩ rfl rfl hl.1 (Nat.le_of_ble_eq_true rfl) dX5_paper_44 (fun _ o_6 H1 L1 P hf => ?_)
    refine r_aload_n C hl 1 rfl rfl dX5_paper_47 ?_
    refine gf_0_0 C P rfl wd_208 dX5_paper_48 ?_
    refine r_aload_n C hl 0 rfl rfl dX5_paper_51 ?_
    refine r_cVv C P cf_X5_136 (rm := rmX2_giveSeal) 1 0 (fun _ _ => ⟨_, rfl⟩) rfl rfl rfl [.ref (rA G 5 t_3)] [] hf (fun _ _ h => ctX2_giveSeal l G o_6 0 t_3 rfl ht_3 h) ⟨rfl, rfl⟩ ⟨Nat.le_of_ble_eq_true rfl, Nat.le_of_ble_eq_true rfl⟩ ⟨Nat.zero_le _, Nat.zero_le _⟩ rfl rfl hl.1 (Nat.le_of_ble_eq_true rfl) dX5_paper_52 (fun _ o_8 H1 L1 P hf => ?_)
    refine r_aload_n C hl 0 rfl rfl dX5_paper_55 ?_
    refine gf_5_5 C P ht_3 wd_109 dX5_paper_56 ?_
    exact x_iret C P dX5_paper_59 hf
  · exact x_throw C E0 X hl9 P (E := "java/lang/IllegalStateException") (tx := "it cannot get a paper") (ik := 48) (is := 134) (ic := 52) ⟨rfl, by decide, by decide, wd_227, wd_20, th_2a, th_2b, th_2c, by decide⟩ (rm := rmX5_paper) ⟨Nat.le_of_ble_eq_true rfl, Nat.le_of_ble_eq_true rfl⟩ hl.1 eX5_paper_26 eX5_paper_29 eX5_paper_30 eX5_paper_32 eX5_paper_35 hf
theorem ctX5_paper (l : Launch) (G : Gd) (hl9 : l.stackTraces = false) (o : OM) (v1 : Int32)  {r : (Nat × Int32)} {o9 : OM} (hf : F_X5_paper o v1 = some (r, o9)) : Cte l yX5_paper cX5_paper 3 (some .int) rmX5_paper G [.ref (rA G 0 0), .int v1] o r.1 (some (.int r.2)) o9 := cte_of (by decide +kernel) (Nat.le_of_ble_eq_true rfl) (fun p e s m below meth c ls C E0 X P hl => wX5_paper C E0 X hl9  P hl hf)
theorem dX5_stopped_0 : Dc cX5_stopped 0 (.iload_n 1) 1 1 := ⟨by decide +kernel, rfl⟩
theorem dX5_stopped_1 : Dc cX5_stopped 1 (.iconst 0) 1 2 := ⟨by decide +kernel, rfl⟩
theorem dX5_stopped_2 : Dc cX5_stopped 2 (.iconst 1) 1 3 := ⟨by decide +kernel, rfl⟩
theorem dX5_stopped_3 : Dc cX5_stopped 3 (.invokestatic 33) 3 6 := ⟨by decide +kernel, rfl⟩
theorem dX5_stopped_6 : Dj cX5_stopped 6 (.ifCond .ne 13) 3 9 (13) 19 := ⟨by decide +kernel, rfl, by decide⟩
theorem dX5_stopped_19 : Dc cX5_stopped 19 (.iload_n 1) 1 20 := ⟨by decide +kernel, rfl⟩
theorem dX5_stopped_20 : Dj cX5_stopped 20 (.ifCond .ne 13) 3 23 (13) 33 := ⟨by decide +kernel, rfl, by decide⟩
theorem dX5_stopped_23 : Dc cX5_stopped 23 (.aload_n 0) 1 24 := ⟨by decide +kernel, rfl⟩
theorem dX5_stopped_24 : Dc cX5_stopped 24 (.getfield 10) 3 27 := ⟨by decide +kernel, rfl⟩
theorem dX5_stopped_27 : Dc cX5_stopped 27 (.getfield 172) 3 30 := ⟨by decide +kernel, rfl⟩
theorem dX5_stopped_30 : Dj cX5_stopped 30 (.goto 10) 3 33 (10) 40 := ⟨by decide +kernel, rfl, by decide⟩
theorem dX5_stopped_33 : Dc cX5_stopped 33 (.aload_n 0) 1 34 := ⟨by decide +kernel, rfl⟩
theorem dX5_stopped_34 : Dc cX5_stopped 34 (.getfield 10) 3 37 := ⟨by decide +kernel, rfl⟩
theorem dX5_stopped_37 : Dc cX5_stopped 37 (.getfield 175) 3 40 := ⟨by decide +kernel, rfl⟩
theorem dX5_stopped_40 : Dc cX5_stopped 40 (.ireturn) 1 41 := ⟨by decide +kernel, rfl⟩
theorem eX5_stopped_9 : decode cX5_stopped 9 = .ok (.new 37, 3) := by decide +kernel
theorem eX5_stopped_12 : decode cX5_stopped 12 = .ok (.dup, 1) := by decide +kernel
theorem eX5_stopped_13 : decode cX5_stopped 13 = .ok (.ldc 178, 2) := by decide +kernel
theorem eX5_stopped_15 : decode cX5_stopped 15 = .ok (.invokespecial 41, 3) := by decide +kernel
theorem eX5_stopped_18 : decode cX5_stopped 18 = .ok (.athrow, 1) := by decide +kernel
def F_X5_stopped (o : OM) (v1 : Int32) : Option ((Nat × Int32) × OM) := bq (F_X5_isWithin o v1 ((0 : Int32)) ((1 : Int32))) (fun r_1 => if r_1 = 0 then (some ((1, 0), o)) else (bd (fun (s_2 : Int32) => some ((0, s_2), o)) (fun k40 => if v1 = 0 then (k40 (rd o 1 0 3)) else (k40 (rd o 1 0 4)))))
abbrev rmX5_stopped : Room := { frames := 6, cells := 0, slots := 0, locals := 82 }
set_option maxHeartbeats 4000000 in
set_option maxRecDepth 100000 in
theorem wX5_stopped {G : Gd} {p : Program} {l : Launch} {e : Env} {s : State} {m : MethodId} {args : Array Value} {below : List Frame} {meth : Method} {c : Code} {o : OM} {H : Heap} {L0 : List Loc} {ls : Array Slot} {r : (Nat × Int32)} {o9 : OM} {v1 : Int32} (C : Cx G RX5 cX5_stopped 2 (some .int) p s m args meth c) (E0 : Cex c) (X : XF G s) (hl9 : l.stackTraces = false)  (P : Hp G o s H L0) (hl : lv_has ls 2 [(0, .ref (rA G 0 0)), (1, .int v1)]) (hf : F_X5_stopped o v1 = some (r, o9)) : W p l e (rmx rmX5_stopped r.1) s m args below meth c H L0 0 0 (Qxm G r.1 (some (.int r.2)) o9 below args s) (F0 m 0 ls []) := by
  unfold F_X5_stopped at hf
  refine r_iload_n C hl 1 rfl rfl dX5_stopped_0 ?_
  refine r_iconst C (v := 0) (by decide) dX5_stopped_1 ?_
  refine r_iconst C (v := 1) (by decide) dX5_stopped_2 ?_
  refine r_qSi C P cf_X5_33 (rm := rmX5_isWithin) [.int v1, .int ((0 : Int32)), .int ((1 : Int32))] [] hf (fun _ h => ctX5_isWithin l G o v1 ((0 : Int32)) ((1 : Int32)) h) ⟨rfl, rfl⟩ ⟨Nat.le_of_ble_eq_true rfl, Nat.le_of_ble_eq_true rfl⟩ ⟨Nat.zero_le _, Nat.zero_le _⟩ rfl rfl hl.1 (Nat.le_of_ble_eq_true rfl) dX5_stopped_3 (fun r_1 H1 L1 P hf => ?_)
  refine r_if_ne C dX5_stopped_6 hf (fun hf => ?_) (fun hf => ?_)
  · refine r_iload_n C hl 1 rfl rfl dX5_stopped_19 ?_
    refine r_jn (fun k40 : Int32 → Option ((Nat × Int32) × OM) => ∀ (s_2 : Int32) H1 L1 ls, Hp G o s H1 L1 → lv_has ls 2 [] → k40 s_2 = some (r, o9) → W p l e (rmx rmX5_stopped r.1) s m args below meth c H1 L1 0 0 (Qxm G r.1 (some (.int r.2)) o9 below args s) (F0 m 40 ls [.int s_2])) hf ?_ (fun k40 j40 hf => ?_)
    · intro s_2 H1 L1 ls  P hl hf
      exact x_iret C P dX5_stopped_40 hf
    refine r_if_ne C dX5_stopped_20 hf (fun hf => ?_) (fun hf => ?_)
    · refine r_aload_n C hl 0 rfl rfl dX5_stopped_33 ?_
      refine gf_0_0 C P rfl wd_208 dX5_stopped_34 ?_
      refine gf_1_4 C P rfl wd_142 dX5_stopped_37 ?_
      exact j40 (rd o 1 0 4) _ _ _ P (lv_sub hl [] rfl) hf
    · refine r_aload_n C hl 0 rfl rfl dX5_stopped_23 ?_
      refine gf_0_0 C P rfl wd_208 dX5_stopped_24 ?_
      refine gf_1_3 C P rfl wd_140 dX5_stopped_27 ?_
      refine r_goto C dX5_stopped_30 ?_
      exact j40 (rd o 1 0 3) _ _ _ P (lv_sub hl [] rfl) hf
  · exact x_throw C E0 X hl9 P (E := "java/lang/IllegalArgumentException") (tx := "what is neither 0 nor 1") (ik := 37) (is := 178) (ic := 41) ⟨rfl, by decide, by decide, wd_322, wd_19, th_1a, th_1b, th_1c, by decide⟩ (rm := rmX5_stopped) ⟨Nat.le_of_ble_eq_true rfl, Nat.le_of_ble_eq_true rfl⟩ hl.1 eX5_stopped_9 eX5_stopped_12 eX5_stopped_13 eX5_stopped_15 eX5_stopped_18 hf
theorem ctX5_stopped (l : Launch) (G : Gd) (hl9 : l.stackTraces = false) (o : OM) (v1 : Int32)  {r : (Nat × Int32)} {o9 : OM} (hf : F_X5_stopped o v1 = some (r, o9)) : Cte l yX5_stopped cX5_stopped 2 (some .int) rmX5_stopped G [.ref (rA G 0 0), .int v1] o r.1 (some (.int r.2)) o9 := cte_of (by decide +kernel) (Nat.le_of_ble_eq_true rfl) (fun p e s m below meth c ls C E0 X P hl => wX5_stopped C E0 X hl9  P hl hf)
theorem cf_X5_183 : CallF false RX5 183 yX0_popInto cX0_popInto 2 none 1 := ⟨wd_295, (by rw [if_neg (by decide)]; exact ⟨wd_296, wd_297⟩), wd_14, wd_298, by decide, by decide +kernel⟩
theorem dX5_undo_0 : Dc cX5_undo 0 (.aload_n 0) 1 1 := ⟨by decide +kernel, rfl⟩
theorem dX5_undo_1 : Dc cX5_undo 1 (.getfield 22) 3 4 := ⟨by decide +kernel, rfl⟩
theorem dX5_undo_4 : Dc cX5_undo 4 (.getfield 180) 3 7 := ⟨by decide +kernel, rfl⟩
theorem dX5_undo_7 : Dj cX5_undo 7 (.ifCond .ne 13) 3 10 (13) 20 := ⟨by decide +kernel, rfl, by decide⟩
theorem dX5_undo_20 : Dc cX5_undo 20 (.aload_n 0) 1 21 := ⟨by decide +kernel, rfl⟩
theorem dX5_undo_21 : Dc cX5_undo 21 (.getfield 22) 3 24 := ⟨by decide +kernel, rfl⟩
theorem dX5_undo_24 : Dc cX5_undo 24 (.aload_n 0) 1 25 := ⟨by decide +kernel, rfl⟩
theorem dX5_undo_25 : Dc cX5_undo 25 (.getfield 10) 3 28 := ⟨by decide +kernel, rfl⟩
theorem dX5_undo_28 : Dc cX5_undo 28 (.invokevirtual 183) 3 31 := ⟨by decide +kernel, rfl⟩
theorem dX5_undo_31 : Dc cX5_undo 31 (.aload_n 0) 1 32 := ⟨by decide +kernel, rfl⟩
theorem dX5_undo_32 : Dc cX5_undo 32 (.getfield 22) 3 35 := ⟨by decide +kernel, rfl⟩
theorem dX5_undo_35 : Dc cX5_undo 35 (.getfield 180) 3 38 := ⟨by decide +kernel, rfl⟩
theorem dX5_undo_38 : Dc cX5_undo 38 (.ireturn) 1 39 := ⟨by decide +kernel, rfl⟩
theorem eX5_undo_10 : decode cX5_undo 10 = .ok (.new 48, 3) := by decide +kernel
theorem eX5_undo_13 : decode cX5_undo 13 = .ok (.dup, 1) := by decide +kernel
theorem eX5_undo_14 : decode cX5_undo 14 = .ok (.ldc 181, 2) := by decide +kernel
theorem eX5_undo_16 : decode cX5_undo 16 = .ok (.invokespecial 52, 3) := by decide +kernel
theorem eX5_undo_19 : decode cX5_undo 19 = .ok (.athrow, 1) := by decide +kernel
def F_X5_undo (o : OM) : Option ((Nat × Int32) × OM) := if (rd o 14 0 0) = 0 then (some ((2, 0), o)) else (bn (F_X0_popInto o 0) (fun _ o_2 => some ((0, (rd o_2 14 0 0)), o_2)))
abbrev rmX5_undo : Room := { frames := 6, cells := 0, slots := 0, locals := 125 }
set_option maxHeartbeats 4000000 in
set_option maxRecDepth 100000 in
theorem wX5_undo {G : Gd} {p : Program} {l : Launch} {e : Env} {s : State} {m : MethodId} {args : Array Value} {below : List Frame} {meth : Method} {c : Code} {o : OM} {H : Heap} {L0 : List Loc} {ls : Array Slot} {r : (Nat × Int32)} {o9 : OM}  (C : Cx G RX5 cX5_undo 1 (some .int) p s m args meth c) (E0 : Cex c) (X : XF G s) (hl9 : l.stackTraces = false)  (P : Hp G o s H L0) (hl : lv_has ls 1 [(0, .ref (rA G 0 0))]) (hf : F_X5_undo o  = some (r, o9)) : W p l e (rmx rmX5_undo r.1) s m args below meth c H L0 0 0 (Qxm G r.1 (some (.int r.2)) o9 below args s) (F0 m 0 ls []) := by
  unfold F_X5_undo at hf
  refine r_aload_n C hl 0 rfl rfl dX5_undo_0 ?_
  refine gf_0_2 C P rfl wd_210 dX5_undo_1 ?_
  refine gf_14_0 C P rfl wd_176 dX5_undo_4 ?_
  refine r_if_ne C dX5_undo_7 hf (fun hf => ?_) (fun hf => ?_)
  · refine r_aload_n C hl 0 rfl rfl dX5_undo_20 ?_
    refine gf_0_2 C P rfl wd_210 dX5_undo_21 ?_
    refine r_aload_n C hl 0 rfl rfl dX5_undo_24 ?_
    refine gf_0_0 C P rfl wd_208 dX5_undo_25 ?_
    refine r_cVv C P cf_X5_183 (rm := rmX0_popInto) 14 0 (fun _ _ => ⟨_, rfl⟩) rfl rfl rfl [.ref (rA G 1 0)] [] hf (fun _ _ h => ctX0_popInto l G o 0 rfl h) ⟨rfl, rfl⟩ ⟨Nat.le_of_ble_eq_true rfl, Nat.le_of_ble_eq_true rfl⟩ ⟨Nat.zero_le _, Nat.zero_le _⟩ rfl rfl hl.1 (Nat.le_of_ble_eq_true rfl) dX5_undo_28 (fun _ o_2 H1 L1 P hf => ?_)
    refine r_aload_n C hl 0 rfl rfl dX5_undo_31 ?_
    refine gf_0_2 C P rfl wd_210 dX5_undo_32 ?_
    refine gf_14_0 C P rfl wd_176 dX5_undo_35 ?_
    exact x_iret C P dX5_undo_38 hf
  · exact x_throw C E0 X hl9 P (E := "java/lang/IllegalStateException") (tx := "there is no saved state") (ik := 48) (is := 181) (ic := 52) ⟨rfl, by decide, by decide, wd_227, wd_20, th_2a, th_2b, th_2c, by decide⟩ (rm := rmX5_undo) ⟨Nat.le_of_ble_eq_true rfl, Nat.le_of_ble_eq_true rfl⟩ hl.1 eX5_undo_10 eX5_undo_13 eX5_undo_14 eX5_undo_16 eX5_undo_19 hf
theorem ctX5_undo (l : Launch) (G : Gd) (hl9 : l.stackTraces = false) (o : OM)   {r : (Nat × Int32)} {o9 : OM} (hf : F_X5_undo o  = some (r, o9)) : Cte l yX5_undo cX5_undo 1 (some .int) rmX5_undo G [.ref (rA G 0 0)] o r.1 (some (.int r.2)) o9 := cte_of (by decide +kernel) (Nat.le_of_ble_eq_true rfl) (fun p e s m below meth c ls C E0 X P hl => wX5_undo C E0 X hl9  P hl hf)
theorem cf_X5_195 : CallF false RX5 195 yX3_readingAt cX3_readingAt 2 (some .int) 1 := ⟨wd_625, (by rw [if_neg (by decide)]; exact ⟨wd_485, wd_486⟩), wd_12, wd_487, by decide, by decide +kernel⟩
theorem dX5_reads_0 : Dc cX5_reads 0 (.aload_n 0) 1 1 := ⟨by decide +kernel, rfl⟩
theorem dX5_reads_1 : Dc cX5_reads 1 (.iload_n 1) 1 2 := ⟨by decide +kernel, rfl⟩
theorem dX5_reads_2 : Dc cX5_reads 2 (.invokevirtual 65) 3 5 := ⟨by decide +kernel, rfl⟩
theorem dX5_reads_5 : Dc cX5_reads 5 (.iload_n 2) 1 6 := ⟨by decide +kernel, rfl⟩
theorem dX5_reads_6 : Dc cX5_reads 6 (.invokestatic 88) 3 9 := ⟨by decide +kernel, rfl⟩
theorem dX5_reads_9 : Dc cX5_reads 9 (.aload_n 0) 1 10 := ⟨by decide +kernel, rfl⟩
theorem dX5_reads_10 : Dc cX5_reads 10 (.getfield 10) 3 13 := ⟨by decide +kernel, rfl⟩
theorem dX5_reads_13 : Dc cX5_reads 13 (.getfield 69) 3 16 := ⟨by decide +kernel, rfl⟩
theorem dX5_reads_16 : Dc cX5_reads 16 (.iload_n 1) 1 17 := ⟨by decide +kernel, rfl⟩
theorem dX5_reads_17 : Dc cX5_reads 17 (.aaload) 1 18 := ⟨by decide +kernel, rfl⟩
theorem dX5_reads_18 : Dc cX5_reads 18 (.iload_n 2) 1 19 := ⟨by decide +kernel, rfl⟩
theorem dX5_reads_19 : Dc cX5_reads 19 (.invokevirtual 195) 3 22 := ⟨by decide +kernel, rfl⟩
theorem dX5_reads_22 : Dc cX5_reads 22 (.sipush 10000) 3 25 := ⟨by decide +kernel, rfl⟩
theorem dX5_reads_25 : Dc cX5_reads 25 (.iadd) 1 26 := ⟨by decide +kernel, rfl⟩
theorem dX5_reads_26 : Dc cX5_reads 26 (.ireturn) 1 27 := ⟨by decide +kernel, rfl⟩
def F_X5_reads (o : OM) (v1 : Int32) (v2 : Int32) : Option ((Nat × Int32) × OM) := bx (F_X5_needThermometer o v1) (0 : Int32) (fun _ o_2 => bx (F_X5_needDegree o_2 v2) (0 : Int32) (fun _ o_4 => grd (inB v1 6) (bd (tid 0 (rd o_4 4 0 v1.toNatClampNeg)) (fun t_5 : Nat => bq (F_X3_readingAt o_4 t_5 v2) (fun r_6 => some ((0, (r_6 + ((10000 : Int32)))), o_4))))))
abbrev rmX5_reads : Room := { frames := 7, cells := 0, slots := 0, locals := 103 }
set_option maxHeartbeats 4000000 in
set_option maxRecDepth 100000 in
theorem wX5_reads {G : Gd} {p : Program} {l : Launch} {e : Env} {s : State} {m : MethodId} {args : Array Value} {below : List Frame} {meth : Method} {c : Code} {o : OM} {H : Heap} {L0 : List Loc} {ls : Array Slot} {r : (Nat × Int32)} {o9 : OM} {v1 : Int32} {v2 : Int32} (C : Cx G RX5 cX5_reads 3 (some .int) p s m args meth c) (E0 : Cex c) (X : XF G s) (hl9 : l.stackTraces = false)  (P : Hp G o s H L0) (hl : lv_has ls 3 [(0, .ref (rA G 0 0)), (1, .int v1), (2, .int v2)]) (hf : F_X5_reads o v1 v2 = some (r, o9)) : W p l e (rmx rmX5_reads r.1) s m args below meth c H L0 0 0 (Qxm G r.1 (some (.int r.2)) o9 below args s) (F0 m 0 ls []) := by
  unfold F_X5_reads at hf
  refine r_aload_n C hl 0 rfl rfl dX5_reads_0 ?_
  refine r_iload_n C hl 1 rfl rfl dX5_reads_1 ?_
  refine x_cVv C E0 X P cf_X5_65 (rm := rmX5_needThermometer) (rm9 := rmX5_reads) 0 0 (fun _ _ => ⟨_, rfl⟩) rfl rfl rfl [.int v1] [] hf (fun _ _ h => ctX5_needThermometer l G hl9 o v1 h) ⟨Nat.le_of_ble_eq_true rfl, Nat.le_of_ble_eq_true rfl⟩ rfl rfl hl.1 (Nat.le_of_ble_eq_true rfl) dX5_reads_2 (fun _ o_2 H1 L1 P hf => ?_)
  refine r_iload_n C hl 2 rfl rfl dX5_reads_5 ?_
  refine x_cSv C E0 X P cf_X5_88 (rm := rmX5_needDegree) (rm9 := rmX5_reads) [.int v2] [] hf (fun _ _ h => ctX5_needDegree l G hl9 o_2 v2 h) ⟨Nat.le_of_ble_eq_true rfl, Nat.le_of_ble_eq_true rfl⟩ rfl rfl hl.1 (Nat.le_of_ble_eq_true rfl) dX5_reads_6 (fun _ o_4 H1 L1 P hf => ?_)
  refine r_aload_n C hl 0 rfl rfl dX5_reads_9 ?_
  refine gf_0_0 C P rfl wd_208 dX5_reads_10 ?_
  refine gf_1_7 C P rfl wd_148 dX5_reads_13 ?_
  refine r_iload_n C hl 1 rfl rfl dX5_reads_16 ?_
  refine r_aldT C P rfl dX5_reads_17 hf (fun t_5 ht_5 hf => ?_)
  refine r_iload_n C hl 2 rfl rfl dX5_reads_18 ?_
  refine r_qVi C P cf_X5_195 (rm := rmX3_readingAt) 5 t_5 (fun _ _ => ⟨_, rfl⟩) rfl rfl ht_5 [.int v2] [] hf (fun _ h => ctX3_readingAt l G o_4 t_5 v2 ht_5 h) ⟨rfl, rfl⟩ ⟨Nat.le_of_ble_eq_true rfl, Nat.le_of_ble_eq_true rfl⟩ ⟨Nat.zero_le _, Nat.zero_le _⟩ rfl rfl hl.1 (Nat.le_of_ble_eq_true rfl) dX5_reads_19 (fun r_6 H1 L1 P hf => ?_)
  refine r_sipush C (v := 10000) (by decide) dX5_reads_22 ?_
  refine r_iadd2 C dX5_reads_25 ?_
  exact x_iret C P dX5_reads_26 hf
theorem ctX5_reads (l : Launch) (G : Gd) (hl9 : l.stackTraces = false) (o : OM) (v1 : Int32) (v2 : Int32)  {r : (Nat × Int32)} {o9 : OM} (hf : F_X5_reads o v1 v2 = some (r, o9)) : Cte l yX5_reads cX5_reads 3 (some .int) rmX5_reads G [.ref (rA G 0 0), .int v1, .int v2] o r.1 (some (.int r.2)) o9 := cte_of (by decide +kernel) (Nat.le_of_ble_eq_true rfl) (fun p e s m below meth c ls C E0 X P hl => wX5_reads C E0 X hl9  P hl hf)
theorem cf_X5_202 : CallF false RX5 202 yX1_correctByTree cX1_correctByTree 4 (some .int) 1 := ⟨wd_602, (by rw [if_neg (by decide)]; exact ⟨wd_538, wd_539⟩), wd_13, wd_540, by decide, by decide +kernel⟩
theorem cf_X5_205 : CallF false RX5 205 yX1_correctByOrder cX1_correctByOrder 3 (some .int) 1 := ⟨wd_603, (by rw [if_neg (by decide)]; exact ⟨wd_604, wd_605⟩), wd_13, wd_606, by decide, by decide +kernel⟩
theorem dX5_corrected_0 : Dc cX5_corrected 0 (.aload_n 0) 1 1 := ⟨by decide +kernel, rfl⟩
theorem dX5_corrected_1 : Dc cX5_corrected 1 (.iload_n 1) 1 2 := ⟨by decide +kernel, rfl⟩
theorem dX5_corrected_2 : Dc cX5_corrected 2 (.invokevirtual 65) 3 5 := ⟨by decide +kernel, rfl⟩
theorem dX5_corrected_5 : Dc cX5_corrected 5 (.iload_n 2) 1 6 := ⟨by decide +kernel, rfl⟩
theorem dX5_corrected_6 : Dc cX5_corrected 6 (.sipush (-999)) 3 9 := ⟨by decide +kernel, rfl⟩
theorem dX5_corrected_9 : Dc cX5_corrected 9 (.sipush 1999) 3 12 := ⟨by decide +kernel, rfl⟩
theorem dX5_corrected_12 : Dc cX5_corrected 12 (.invokestatic 33) 3 15 := ⟨by decide +kernel, rfl⟩
theorem dX5_corrected_15 : Dj cX5_corrected 15 (.ifCond .ne 13) 3 18 (13) 28 := ⟨by decide +kernel, rfl, by decide⟩
theorem dX5_corrected_28 : Dc cX5_corrected 28 (.iload_n 3) 1 29 := ⟨by decide +kernel, rfl⟩
theorem dX5_corrected_29 : Dc cX5_corrected 29 (.iconst 0) 1 30 := ⟨by decide +kernel, rfl⟩
theorem dX5_corrected_30 : Dc cX5_corrected 30 (.iconst 1) 1 31 := ⟨by decide +kernel, rfl⟩
theorem dX5_corrected_31 : Dc cX5_corrected 31 (.invokestatic 33) 3 34 := ⟨by decide +kernel, rfl⟩
theorem dX5_corrected_34 : Dj cX5_corrected 34 (.ifCond .ne 13) 3 37 (13) 47 := ⟨by decide +kernel, rfl, by decide⟩
theorem dX5_corrected_47 : Dc cX5_corrected 47 (.aload_n 0) 1 48 := ⟨by decide +kernel, rfl⟩
theorem dX5_corrected_48 : Dc cX5_corrected 48 (.getfield 10) 3 51 := ⟨by decide +kernel, rfl⟩
theorem dX5_corrected_51 : Dc cX5_corrected 51 (.getfield 69) 3 54 := ⟨by decide +kernel, rfl⟩
theorem dX5_corrected_54 : Dc cX5_corrected 54 (.iload_n 1) 1 55 := ⟨by decide +kernel, rfl⟩
theorem dX5_corrected_55 : Dc cX5_corrected 55 (.aaload) 1 56 := ⟨by decide +kernel, rfl⟩
theorem dX5_corrected_56 : Dc cX5_corrected 56 (.getfield 73) 3 59 := ⟨by decide +kernel, rfl⟩
theorem dX5_corrected_59 : Dc cX5_corrected 59 (.astore 4) 2 61 := ⟨by decide +kernel, rfl⟩
theorem dX5_corrected_61 : Dc cX5_corrected 61 (.aload 4) 2 63 := ⟨by decide +kernel, rfl⟩
theorem dX5_corrected_63 : Dc cX5_corrected 63 (.getfield 79) 3 66 := ⟨by decide +kernel, rfl⟩
theorem dX5_corrected_66 : Dc cX5_corrected 66 (.iconst 2) 1 67 := ⟨by decide +kernel, rfl⟩
theorem dX5_corrected_67 : Dj cX5_corrected 67 (.if_icmp .ge 5) 3 70 (5) 72 := ⟨by decide +kernel, rfl, by decide⟩
theorem dX5_corrected_70 : Dc cX5_corrected 70 (.iconst (-1)) 1 71 := ⟨by decide +kernel, rfl⟩
theorem dX5_corrected_71 : Dc cX5_corrected 71 (.ireturn) 1 72 := ⟨by decide +kernel, rfl⟩
theorem dX5_corrected_72 : Dc cX5_corrected 72 (.iload_n 3) 1 73 := ⟨by decide +kernel, rfl⟩
theorem dX5_corrected_73 : Dj cX5_corrected 73 (.ifCond .ne 12) 3 76 (12) 85 := ⟨by decide +kernel, rfl, by decide⟩
theorem dX5_corrected_76 : Dc cX5_corrected 76 (.aload 4) 2 78 := ⟨by decide +kernel, rfl⟩
theorem dX5_corrected_78 : Dc cX5_corrected 78 (.iload_n 2) 1 79 := ⟨by decide +kernel, rfl⟩
theorem dX5_corrected_79 : Dc cX5_corrected 79 (.invokevirtual 202) 3 82 := ⟨by decide +kernel, rfl⟩
theorem dX5_corrected_82 : Dj cX5_corrected 82 (.goto 9) 3 85 (9) 91 := ⟨by decide +kernel, rfl, by decide⟩
theorem dX5_corrected_85 : Dc cX5_corrected 85 (.aload 4) 2 87 := ⟨by decide +kernel, rfl⟩
theorem dX5_corrected_87 : Dc cX5_corrected 87 (.iload_n 2) 1 88 := ⟨by decide +kernel, rfl⟩
theorem dX5_corrected_88 : Dc cX5_corrected 88 (.invokevirtual 205) 3 91 := ⟨by decide +kernel, rfl⟩
theorem dX5_corrected_91 : Dc cX5_corrected 91 (.ldc 208) 2 93 := ⟨by decide +kernel, rfl⟩
theorem dX5_corrected_93 : Dc cX5_corrected 93 (.iadd) 1 94 := ⟨by decide +kernel, rfl⟩
theorem dX5_corrected_94 : Dc cX5_corrected 94 (.ireturn) 1 95 := ⟨by decide +kernel, rfl⟩
theorem eX5_corrected_18 : decode cX5_corrected 18 = .ok (.new 37, 3) := by decide +kernel
theorem eX5_corrected_21 : decode cX5_corrected 21 = .ok (.dup, 1) := by decide +kernel
theorem eX5_corrected_22 : decode cX5_corrected 22 = .ok (.ldc 198, 2) := by decide +kernel
theorem eX5_corrected_24 : decode cX5_corrected 24 = .ok (.invokespecial 41, 3) := by decide +kernel
theorem eX5_corrected_27 : decode cX5_corrected 27 = .ok (.athrow, 1) := by decide +kernel
theorem eX5_corrected_37 : decode cX5_corrected 37 = .ok (.new 37, 3) := by decide +kernel
theorem eX5_corrected_40 : decode cX5_corrected 40 = .ok (.dup, 1) := by decide +kernel
theorem eX5_corrected_41 : decode cX5_corrected 41 = .ok (.ldc 200, 2) := by decide +kernel
theorem eX5_corrected_43 : decode cX5_corrected 43 = .ok (.invokespecial 41, 3) := by decide +kernel
theorem eX5_corrected_46 : decode cX5_corrected 46 = .ok (.athrow, 1) := by decide +kernel
def F_X5_corrected (o : OM) (v1 : Int32) (v2 : Int32) (v3 : Int32) : Option ((Nat × Int32) × OM) := bx (F_X5_needThermometer o v1) (0 : Int32) (fun _ o_2 => bq (F_X5_isWithin o_2 v2 ((-999 : Int32)) ((1999 : Int32))) (fun r_3 => if r_3 = 0 then (some ((1, 0), o_2)) else (bq (F_X5_isWithin o_2 v3 ((0 : Int32)) ((1 : Int32))) (fun r_4 => if r_4 = 0 then (some ((1, 0), o_2)) else (grd (inB v1 6) (bd (tid 0 (rd o_2 4 0 v1.toNatClampNeg)) (fun t_5 : Nat => if ((2 : Int32)) ≤ (rd o_2 6 t_5 0) then (bd (fun (s_6 : Int32) => some ((0, (s_6 + ((10000000 : Int32)))), o_2)) (fun k91 => if v3 = 0 then (bq (F_X1_correctByTree o_2 t_5 v2) (fun r_8 => k91 r_8)) else (bq (F_X1_correctByOrder o_2 t_5 v2) (fun r_7 => k91 r_7)))) else (some ((0, ((-1 : Int32))), o_2)))))))))
abbrev rmX5_corrected : Room := { frames := 7, cells := 0, slots := 0, locals := 103 }
set_option maxHeartbeats 4000000 in
set_option maxRecDepth 100000 in
theorem wX5_corrected {G : Gd} {p : Program} {l : Launch} {e : Env} {s : State} {m : MethodId} {args : Array Value} {below : List Frame} {meth : Method} {c : Code} {o : OM} {H : Heap} {L0 : List Loc} {ls : Array Slot} {r : (Nat × Int32)} {o9 : OM} {v1 : Int32} {v2 : Int32} {v3 : Int32} (C : Cx G RX5 cX5_corrected 5 (some .int) p s m args meth c) (E0 : Cex c) (X : XF G s) (hl9 : l.stackTraces = false)  (P : Hp G o s H L0) (hl : lv_has ls 5 [(0, .ref (rA G 0 0)), (1, .int v1), (2, .int v2), (3, .int v3)]) (hf : F_X5_corrected o v1 v2 v3 = some (r, o9)) : W p l e (rmx rmX5_corrected r.1) s m args below meth c H L0 0 0 (Qxm G r.1 (some (.int r.2)) o9 below args s) (F0 m 0 ls []) := by
  unfold F_X5_corrected at hf
  refine r_aload_n C hl 0 rfl rfl dX5_corrected_0 ?_
  refine r_iload_n C hl 1 rfl rfl dX5_corrected_1 ?_
  refine x_cVv C E0 X P cf_X5_65 (rm := rmX5_needThermometer) (rm9 := rmX5_corrected) 0 0 (fun _ _ => ⟨_, rfl⟩) rfl rfl rfl [.int v1] [] hf (fun _ _ h => ctX5_needThermometer l G hl9 o v1 h) ⟨Nat.le_of_ble_eq_true rfl, Nat.le_of_ble_eq_true rfl⟩ rfl rfl hl.1 (Nat.le_of_ble_eq_true rfl) dX5_corrected_2 (fun _ o_2 H1 L1 P hf => ?_)
  refine r_iload_n C hl 2 rfl rfl dX5_corrected_5 ?_
  refine r_sipush C (v := -999) (by decide) dX5_corrected_6 ?_
  refine r_sipush C (v := 1999) (by decide) dX5_corrected_9 ?_
  refine r_qSi C P cf_X5_33 (rm := rmX5_isWithin) [.int v2, .int ((-999 : Int32)), .int ((1999 : Int32))] [] hf (fun _ h => ctX5_isWithin l G o_2 v2 ((-999 : Int32)) ((1999 : Int32)) h) ⟨rfl, rfl⟩ ⟨Nat.le_of_ble_eq_true rfl, Nat.le_of_ble_eq_true rfl⟩ ⟨Nat.zero_le _, Nat.zero_le _⟩ rfl rfl hl.1 (Nat.le_of_ble_eq_true rfl) dX5_corrected_12 (fun r_3 H1 L1 P hf => ?_)
  refine r_if_ne C dX5_corrected_15 hf (fun hf => ?_) (fun hf => ?_)
  · refine r_iload_n C hl 3 rfl rfl dX5_corrected_28 ?_
    refine r_iconst C (v := 0) (by decide) dX5_corrected_29 ?_
    refine r_iconst C (v := 1) (by decide) dX5_corrected_30 ?_
    refine r_qSi C P cf_X5_33 (rm := rmX5_isWithin) [.int v3, .int ((0 : Int32)), .int ((1 : Int32))] [] hf (fun _ h => ctX5_isWithin l G o_2 v3 ((0 : Int32)) ((1 : Int32)) h) ⟨rfl, rfl⟩ ⟨Nat.le_of_ble_eq_true rfl, Nat.le_of_ble_eq_true rfl⟩ ⟨Nat.zero_le _, Nat.zero_le _⟩ rfl rfl hl.1 (Nat.le_of_ble_eq_true rfl) dX5_corrected_31 (fun r_4 H1 L1 P hf => ?_)
    refine r_if_ne C dX5_corrected_34 hf (fun hf => ?_) (fun hf => ?_)
    · refine r_aload_n C hl 0 rfl rfl dX5_corrected_47 ?_
      refine gf_0_0 C P rfl wd_208 dX5_corrected_48 ?_
      refine gf_1_7 C P rfl wd_148 dX5_corrected_51 ?_
      refine r_iload_n C hl 1 rfl rfl dX5_corrected_54 ?_
      refine r_aldT C P rfl dX5_corrected_55 hf (fun t_5 ht_5 hf => ?_)
      refine gf_5_7 C P ht_5 wd_114 dX5_corrected_56 ?_
      refine r_astore C [(4, .ref (rA G 6 t_5)), (0, .ref (rA G 0 0)), (1, .int v1), (2, .int v2), (3, .int v3)] hl (by decide) rfl dX5_corrected_59 (fun ls hl => ?_)
      refine r_aload C hl 0 rfl dX5_corrected_61 ?_
      refine gf_6_0 C P ht_5 wd_64 dX5_corrected_63 ?_
      refine r_iconst C (v := 2) (by decide) dX5_corrected_66 ?_
      refine r_icmp_ge C dX5_corrected_67 hf (fun hf => ?_) (fun hf => ?_)
      · refine r_iload_n C hl 4 rfl rfl dX5_corrected_72 ?_
        refine r_jn (fun k91 : Int32 → Option ((Nat × Int32) × OM) => ∀ (s_6 : Int32) H1 L1 ls, Hp G o_2 s H1 L1 → lv_has ls 5 [] → k91 s_6 = some (r, o9) → W p l e (rmx rmX5_corrected r.1) s m args below meth c H1 L1 0 0 (Qxm G r.1 (some (.int r.2)) o9 below args s) (F0 m 91 ls [.int s_6])) hf ?_ (fun k91 j91 hf => ?_)
        · intro s_6 H1 L1 ls  P hl hf
          refine r_ldc C wd_607 dX5_corrected_91 ?_
          refine r_iadd2 C dX5_corrected_93 ?_
          exact x_iret C P dX5_corrected_94 hf
        refine r_if_ne C dX5_corrected_73 hf (fun hf => ?_) (fun hf => ?_)
        · refine r_aload C hl 0 rfl dX5_corrected_85 ?_
          refine r_iload_n C hl 3 rfl rfl dX5_corrected_87 ?_
          refine r_qVi C P cf_X5_205 (rm := rmX1_correctByOrder) 6 t_5 (fun _ _ => ⟨_, rfl⟩) rfl rfl ht_5 [.int v2] [] hf (fun _ h => ctX1_correctByOrder l G o_2 t_5 v2 ht_5 h) ⟨rfl, rfl⟩ ⟨Nat.le_of_ble_eq_true rfl, Nat.le_of_ble_eq_true rfl⟩ ⟨Nat.zero_le _, Nat.zero_le _⟩ rfl rfl hl.1 (Nat.le_of_ble_eq_true rfl) dX5_corrected_88 (fun r_7 H1 L1 P hf => ?_)
          exact j91 r_7 _ _ _ P (lv_sub hl [] rfl) hf
        · refine r_aload C hl 0 rfl dX5_corrected_76 ?_
          refine r_iload_n C hl 3 rfl rfl dX5_corrected_78 ?_
          refine r_qVi C P cf_X5_202 (rm := rmX1_correctByTree) 6 t_5 (fun _ _ => ⟨_, rfl⟩) rfl rfl ht_5 [.int v2] [] hf (fun _ h => ctX1_correctByTree l G o_2 t_5 v2 ht_5 h) ⟨rfl, rfl⟩ ⟨Nat.le_of_ble_eq_true rfl, Nat.le_of_ble_eq_true rfl⟩ ⟨Nat.zero_le _, Nat.zero_le _⟩ rfl rfl hl.1 (Nat.le_of_ble_eq_true rfl) dX5_corrected_79 (fun r_8 H1 L1 P hf => ?_)
          refine r_goto C dX5_corrected_82 ?_
          exact j91 r_8 _ _ _ P (lv_sub hl [] rfl) hf
      · refine r_iconst C (v := -1) (by decide) dX5_corrected_70 ?_
        exact x_iret C P dX5_corrected_71 hf
    · exact x_throw C E0 X hl9 P (E := "java/lang/IllegalArgumentException") (tx := "way is neither 0 nor 1") (ik := 37) (is := 200) (ic := 41) ⟨rfl, by decide, by decide, wd_322, wd_19, th_1a, th_1b, th_1c, by decide⟩ (rm := rmX5_corrected) ⟨Nat.le_of_ble_eq_true rfl, Nat.le_of_ble_eq_true rfl⟩ hl.1 eX5_corrected_37 eX5_corrected_40 eX5_corrected_41 eX5_corrected_43 eX5_corrected_46 hf
  · exact x_throw C E0 X hl9 P (E := "java/lang/IllegalArgumentException") (tx := "reading is out of range") (ik := 37) (is := 198) (ic := 41) ⟨rfl, by decide, by decide, wd_322, wd_19, th_1a, th_1b, th_1c, by decide⟩ (rm := rmX5_corrected) ⟨Nat.le_of_ble_eq_true rfl, Nat.le_of_ble_eq_true rfl⟩ hl.1 eX5_corrected_18 eX5_corrected_21 eX5_corrected_22 eX5_corrected_24 eX5_corrected_27 hf
theorem ctX5_corrected (l : Launch) (G : Gd) (hl9 : l.stackTraces = false) (o : OM) (v1 : Int32) (v2 : Int32) (v3 : Int32)  {r : (Nat × Int32)} {o9 : OM} (hf : F_X5_corrected o v1 v2 v3 = some (r, o9)) : Cte l yX5_corrected cX5_corrected 5 (some .int) rmX5_corrected G [.ref (rA G 0 0), .int v1, .int v2, .int v3] o r.1 (some (.int r.2)) o9 := cte_of (by decide +kernel) (Nat.le_of_ble_eq_true rfl) (fun p e s m below meth c ls C E0 X P hl => wX5_corrected C E0 X hl9  P hl hf)
theorem cf_X5_218 : CallF false RX5 218 yX1_treeDepth cX1_treeDepth 3 (some .int) 0 := ⟨wd_574, (by rw [if_neg (by decide)]; exact ⟨wd_575, wd_576⟩), wd_13, wd_577, by decide, by decide +kernel⟩
theorem cf_X5_221 : CallF false RX5 221 yX2_isValid cX2_isValid 2 (some .boolean) 1 := ⟨wd_581, (by rw [if_neg (by decide)]; exact ⟨wd_347, wd_348⟩), wd_11, wd_349, by decide, by decide +kernel⟩
theorem cf_X5_225 : CallF false RX5 225 yX1_widestGap cX1_widestGap 3 (some .int) 0 := ⟨wd_582, (by rw [if_neg (by decide)]; exact ⟨wd_583, wd_584⟩), wd_13, wd_585, by decide, by decide +kernel⟩
theorem dX5_thermometer_0 : Dc cX5_thermometer 0 (.aload_n 0) 1 1 := ⟨by decide +kernel, rfl⟩
theorem dX5_thermometer_1 : Dc cX5_thermometer 1 (.iload_n 1) 1 2 := ⟨by decide +kernel, rfl⟩
theorem dX5_thermometer_2 : Dc cX5_thermometer 2 (.invokevirtual 65) 3 5 := ⟨by decide +kernel, rfl⟩
theorem dX5_thermometer_5 : Dc cX5_thermometer 5 (.aload_n 0) 1 6 := ⟨by decide +kernel, rfl⟩
theorem dX5_thermometer_6 : Dc cX5_thermometer 6 (.getfield 10) 3 9 := ⟨by decide +kernel, rfl⟩
theorem dX5_thermometer_9 : Dc cX5_thermometer 9 (.getfield 69) 3 12 := ⟨by decide +kernel, rfl⟩
theorem dX5_thermometer_12 : Dc cX5_thermometer 12 (.iload_n 1) 1 13 := ⟨by decide +kernel, rfl⟩
theorem dX5_thermometer_13 : Dc cX5_thermometer 13 (.aaload) 1 14 := ⟨by decide +kernel, rfl⟩
theorem dX5_thermometer_14 : Dc cX5_thermometer 14 (.astore_n 3) 1 15 := ⟨by decide +kernel, rfl⟩
theorem dX5_thermometer_15 : Dc cX5_thermometer 15 (.iload_n 2) 1 16 := ⟨by decide +kernel, rfl⟩
theorem dX5_thermometer_16 : Dc cX5_thermometer 16 (.tableswitch 122 0 8 #[52, 57, 62, 67, 75, 83, 88, 105, 114]) 52 68 := ⟨by decide +kernel, rfl⟩
theorem dX5_thermometer_68 : Dc cX5_thermometer 68 (.aload_n 3) 1 69 := ⟨by decide +kernel, rfl⟩
theorem dX5_thermometer_69 : Dc cX5_thermometer 69 (.getfield 209) 3 72 := ⟨by decide +kernel, rfl⟩
theorem dX5_thermometer_72 : Dc cX5_thermometer 72 (.ireturn) 1 73 := ⟨by decide +kernel, rfl⟩
theorem dX5_thermometer_73 : Dc cX5_thermometer 73 (.aload_n 3) 1 74 := ⟨by decide +kernel, rfl⟩
theorem dX5_thermometer_74 : Dc cX5_thermometer 74 (.getfield 212) 3 77 := ⟨by decide +kernel, rfl⟩
theorem dX5_thermometer_77 : Dc cX5_thermometer 77 (.ireturn) 1 78 := ⟨by decide +kernel, rfl⟩
theorem dX5_thermometer_78 : Dc cX5_thermometer 78 (.aload_n 3) 1 79 := ⟨by decide +kernel, rfl⟩
theorem dX5_thermometer_79 : Dc cX5_thermometer 79 (.getfield 215) 3 82 := ⟨by decide +kernel, rfl⟩
theorem dX5_thermometer_82 : Dc cX5_thermometer 82 (.ireturn) 1 83 := ⟨by decide +kernel, rfl⟩
theorem dX5_thermometer_83 : Dc cX5_thermometer 83 (.aload_n 3) 1 84 := ⟨by decide +kernel, rfl⟩
theorem dX5_thermometer_84 : Dc cX5_thermometer 84 (.getfield 73) 3 87 := ⟨by decide +kernel, rfl⟩
theorem dX5_thermometer_87 : Dc cX5_thermometer 87 (.getfield 79) 3 90 := ⟨by decide +kernel, rfl⟩
theorem dX5_thermometer_90 : Dc cX5_thermometer 90 (.ireturn) 1 91 := ⟨by decide +kernel, rfl⟩
theorem dX5_thermometer_91 : Dc cX5_thermometer 91 (.aload_n 3) 1 92 := ⟨by decide +kernel, rfl⟩
theorem dX5_thermometer_92 : Dc cX5_thermometer 92 (.getfield 73) 3 95 := ⟨by decide +kernel, rfl⟩
theorem dX5_thermometer_95 : Dc cX5_thermometer 95 (.invokevirtual 218) 3 98 := ⟨by decide +kernel, rfl⟩
theorem dX5_thermometer_98 : Dc cX5_thermometer 98 (.ireturn) 1 99 := ⟨by decide +kernel, rfl⟩
theorem dX5_thermometer_99 : Dc cX5_thermometer 99 (.aload_n 3) 1 100 := ⟨by decide +kernel, rfl⟩
theorem dX5_thermometer_100 : Dc cX5_thermometer 100 (.getfield 140) 3 103 := ⟨by decide +kernel, rfl⟩
theorem dX5_thermometer_103 : Dc cX5_thermometer 103 (.ireturn) 1 104 := ⟨by decide +kernel, rfl⟩
theorem dX5_thermometer_104 : Dc cX5_thermometer 104 (.aload_n 0) 1 105 := ⟨by decide +kernel, rfl⟩
theorem dX5_thermometer_105 : Dc cX5_thermometer 105 (.getfield 10) 3 108 := ⟨by decide +kernel, rfl⟩
theorem dX5_thermometer_108 : Dc cX5_thermometer 108 (.aload_n 3) 1 109 := ⟨by decide +kernel, rfl⟩
theorem dX5_thermometer_109 : Dc cX5_thermometer 109 (.invokevirtual 221) 3 112 := ⟨by decide +kernel, rfl⟩
theorem dX5_thermometer_112 : Dj cX5_thermometer 112 (.ifCond .eq 7) 3 115 (7) 119 := ⟨by decide +kernel, rfl, by decide⟩
theorem dX5_thermometer_115 : Dc cX5_thermometer 115 (.iconst 1) 1 116 := ⟨by decide +kernel, rfl⟩
theorem dX5_thermometer_116 : Dj cX5_thermometer 116 (.goto 4) 3 119 (4) 120 := ⟨by decide +kernel, rfl, by decide⟩
theorem dX5_thermometer_119 : Dc cX5_thermometer 119 (.iconst 0) 1 120 := ⟨by decide +kernel, rfl⟩
theorem dX5_thermometer_120 : Dc cX5_thermometer 120 (.ireturn) 1 121 := ⟨by decide +kernel, rfl⟩
theorem dX5_thermometer_121 : Dc cX5_thermometer 121 (.aload_n 0) 1 122 := ⟨by decide +kernel, rfl⟩
theorem dX5_thermometer_122 : Dc cX5_thermometer 122 (.getfield 10) 3 125 := ⟨by decide +kernel, rfl⟩
theorem dX5_thermometer_125 : Dc cX5_thermometer 125 (.aload_n 3) 1 126 := ⟨by decide +kernel, rfl⟩
theorem dX5_thermometer_126 : Dc cX5_thermometer 126 (.invokevirtual 130) 3 129 := ⟨by decide +kernel, rfl⟩
theorem dX5_thermometer_129 : Dc cX5_thermometer 129 (.ireturn) 1 130 := ⟨by decide +kernel, rfl⟩
theorem dX5_thermometer_130 : Dc cX5_thermometer 130 (.aload_n 3) 1 131 := ⟨by decide +kernel, rfl⟩
theorem dX5_thermometer_131 : Dc cX5_thermometer 131 (.getfield 73) 3 134 := ⟨by decide +kernel, rfl⟩
theorem dX5_thermometer_134 : Dc cX5_thermometer 134 (.invokevirtual 225) 3 137 := ⟨by decide +kernel, rfl⟩
theorem dX5_thermometer_137 : Dc cX5_thermometer 137 (.ireturn) 1 138 := ⟨by decide +kernel, rfl⟩
theorem eX5_thermometer_138 : decode cX5_thermometer 138 = .ok (.new 37, 3) := by decide +kernel
theorem eX5_thermometer_141 : decode cX5_thermometer 141 = .ok (.dup, 1) := by decide +kernel
theorem eX5_thermometer_142 : decode cX5_thermometer 142 = .ok (.ldc 228, 2) := by decide +kernel
theorem eX5_thermometer_144 : decode cX5_thermometer 144 = .ok (.invokespecial 41, 3) := by decide +kernel
theorem eX5_thermometer_147 : decode cX5_thermometer 147 = .ok (.athrow, 1) := by decide +kernel
def F_X5_thermometer (o : OM) (v1 : Int32) (v2 : Int32) : Option ((Nat × Int32) × OM) := bx (F_X5_needThermometer o v1) (0 : Int32) (fun _ o_2 => grd (inB v1 6) (bd (tid 0 (rd o_2 4 0 v1.toNatClampNeg)) (fun t_3 : Nat => if v2 = 0 then (some ((0, (rd o_2 5 t_3 2)), o_2)) else (if v2 = 1 then (some ((0, (rd o_2 5 t_3 3)), o_2)) else (if v2 = 2 then (some ((0, (rd o_2 5 t_3 4)), o_2)) else (if v2 = 3 then (some ((0, (rd o_2 6 t_3 0)), o_2)) else (if v2 = 4 then (bq (F_X1_treeDepth o_2 t_3) (fun r_4 => some ((0, r_4), o_2))) else (if v2 = 5 then (some ((0, (rd o_2 5 t_3 5)), o_2)) else (if v2 = 6 then (bq (F_X2_isValid o_2 0 t_3) (fun r_5 => bd (fun (s_6 : Int32) => some ((0, s_6), o_2)) (fun k120 => if r_5 = 0 then (k120 ((0 : Int32))) else (k120 ((1 : Int32)))))) else (if v2 = 7 then (bq (F_X2_reasonForNoPaper o_2 0 t_3) (fun r_7 => some ((0, r_7), o_2))) else (if v2 = 8 then (bq (F_X1_widestGap o_2 t_3) (fun r_8 => some ((0, r_8), o_2))) else (some ((1, 0), o_2)))))))))))))
abbrev rmX5_thermometer : Room := { frames := 7, cells := 0, slots := 0, locals := 119 }
set_option maxHeartbeats 4000000 in
set_option maxRecDepth 100000 in
theorem wX5_thermometer {G : Gd} {p : Program} {l : Launch} {e : Env} {s : State} {m : MethodId} {args : Array Value} {below : List Frame} {meth : Method} {c : Code} {o : OM} {H : Heap} {L0 : List Loc} {ls : Array Slot} {r : (Nat × Int32)} {o9 : OM} {v1 : Int32} {v2 : Int32} (C : Cx G RX5 cX5_thermometer 4 (some .int) p s m args meth c) (E0 : Cex c) (X : XF G s) (hl9 : l.stackTraces = false)  (P : Hp G o s H L0) (hl : lv_has ls 4 [(0, .ref (rA G 0 0)), (1, .int v1), (2, .int v2)]) (hf : F_X5_thermometer o v1 v2 = some (r, o9)) : W p l e (rmx rmX5_thermometer r.1) s m args below meth c H L0 0 0 (Qxm G r.1 (some (.int r.2)) o9 below args s) (F0 m 0 ls []) := by
  unfold F_X5_thermometer at hf
  refine r_aload_n C hl 0 rfl rfl dX5_thermometer_0 ?_
  refine r_iload_n C hl 1 rfl rfl dX5_thermometer_1 ?_
  refine x_cVv C E0 X P cf_X5_65 (rm := rmX5_needThermometer) (rm9 := rmX5_thermometer) 0 0 (fun _ _ => ⟨_, rfl⟩) rfl rfl rfl [.int v1] [] hf (fun _ _ h => ctX5_needThermometer l G hl9 o v1 h) ⟨Nat.le_of_ble_eq_true rfl, Nat.le_of_ble_eq_true rfl⟩ rfl rfl hl.1 (Nat.le_of_ble_eq_true rfl) dX5_thermometer_2 (fun _ o_2 H1 L1 P hf => ?_)
  refine r_aload_n C hl 0 rfl rfl dX5_thermometer_5 ?_
  refine gf_0_0 C P rfl wd_208 dX5_thermometer_6 ?_
  refine gf_1_7 C P rfl wd_148 dX5_thermometer_9 ?_
  refine r_iload_n C hl 1 rfl rfl dX5_thermometer_12 ?_
  refine r_aldT C P rfl dX5_thermometer_13 hf (fun t_3 ht_3 hf => ?_)
  refine r_astore_n C [(3, .ref (rA G 5 t_3)), (0, .ref (rA G 0 0)), (1, .int v1), (2, .int v2)] hl (by decide) rfl rfl dX5_thermometer_14 (fun ls hl => ?_)
  refine r_iload_n C hl 3 rfl rfl dX5_thermometer_15 ?_
  refine r_ite hf (fun hc0 hf => ?_) (fun hc0 hf => ?_)
  · refine lv_tableIn C.1 C.2.1 (off := 52) (tgt := 68) dX5_thermometer_16.1 (by rw [hc0] <;> decide) (by rw [hc0] <;> decide) (by rw [hc0] <;> decide) rfl ?_
    refine r_aload_n C hl 0 rfl rfl dX5_thermometer_68 ?_
    refine gf_5_2 C P ht_3 wd_101 dX5_thermometer_69 ?_
    exact x_iret C P dX5_thermometer_72 hf
  · refine r_ite hf (fun hc1 hf => ?_) (fun hc1 hf => ?_)
    · refine lv_tableIn C.1 C.2.1 (off := 57) (tgt := 73) dX5_thermometer_16.1 (by rw [hc1] <;> decide) (by rw [hc1] <;> decide) (by rw [hc1] <;> decide) rfl ?_
      refine r_aload_n C hl 0 rfl rfl dX5_thermometer_73 ?_
      refine gf_5_3 C P ht_3 wd_104 dX5_thermometer_74 ?_
      exact x_iret C P dX5_thermometer_77 hf
    · refine r_ite hf (fun hc2 hf => ?_) (fun hc2 hf => ?_)
      · refine lv_tableIn C.1 C.2.1 (off := 62) (tgt := 78) dX5_thermometer_16.1 (by rw [hc2] <;> decide) (by rw [hc2] <;> decide) (by rw [hc2] <;> decide) rfl ?_
        refine r_aload_n C hl 0 rfl rfl dX5_thermometer_78 ?_
        refine gf_5_4 C P ht_3 wd_107 dX5_thermometer_79 ?_
        exact x_iret C P dX5_thermometer_82 hf
      · refine r_ite hf (fun hc3 hf => ?_) (fun hc3 hf => ?_)
        · refine lv_tableIn C.1 C.2.1 (off := 67) (tgt := 83) dX5_thermometer_16.1 (by rw [hc3] <;> decide) (by rw [hc3] <;> decide) (by rw [hc3] <;> decide) rfl ?_
          refine r_aload_n C hl 0 rfl rfl dX5_thermometer_83 ?_
          refine gf_5_7 C P ht_3 wd_114 dX5_thermometer_84 ?_
          refine gf_6_0 C P ht_3 wd_64 dX5_thermometer_87 ?_
          exact x_iret C P dX5_thermometer_90 hf
        · refine r_ite hf (fun hc4 hf => ?_) (fun hc4 hf => ?_)
          · refine lv_tableIn C.1 C.2.1 (off := 75) (tgt := 91) dX5_thermometer_16.1 (by rw [hc4] <;> decide) (by rw [hc4] <;> decide) (by rw [hc4] <;> decide) rfl ?_
            refine r_aload_n C hl 0 rfl rfl dX5_thermometer_91 ?_
            refine gf_5_7 C P ht_3 wd_114 dX5_thermometer_92 ?_
            refine r_qVi C P cf_X5_218 (rm := rmX1_treeDepth) 6 t_3 (fun _ _ => ⟨_, rfl⟩) rfl rfl ht_3 [] [] hf (fun _ h => ctX1_treeDepth l G o_2 t_3 ht_3 h) ⟨rfl, rfl⟩ ⟨Nat.le_of_ble_eq_true rfl, Nat.le_of_ble_eq_true rfl⟩ ⟨Nat.zero_le _, Nat.zero_le _⟩ rfl rfl hl.1 (Nat.le_of_ble_eq_true rfl) dX5_thermometer_95 (fun r_4 H1 L1 P hf => ?_)
            exact x_iret C P dX5_thermometer_98 hf
          · refine r_ite hf (fun hc5 hf => ?_) (fun hc5 hf => ?_)
            · refine lv_tableIn C.1 C.2.1 (off := 83) (tgt := 99) dX5_thermometer_16.1 (by rw [hc5] <;> decide) (by rw [hc5] <;> decide) (by rw [hc5] <;> decide) rfl ?_
              refine r_aload_n C hl 0 rfl rfl dX5_thermometer_99 ?_
              refine gf_5_5 C P ht_3 wd_109 dX5_thermometer_100 ?_
              exact x_iret C P dX5_thermometer_103 hf
            · refine r_ite hf (fun hc6 hf => ?_) (fun hc6 hf => ?_)
              · refine lv_tableIn C.1 C.2.1 (off := 88) (tgt := 104) dX5_thermometer_16.1 (by rw [hc6] <;> decide) (by rw [hc6] <;> decide) (by rw [hc6] <;> decide) rfl ?_
                refine r_aload_n C hl 1 rfl rfl dX5_thermometer_104 ?_
                refine gf_0_0 C P rfl wd_208 dX5_thermometer_105 ?_
                refine r_aload_n C hl 0 rfl rfl dX5_thermometer_108 ?_
                refine r_qVi C P cf_X5_221 (rm := rmX2_isValid) 1 0 (fun _ _ => ⟨_, rfl⟩) rfl rfl rfl [.ref (rA G 5 t_3)] [] hf (fun _ h => ctX2_isValid l G o_2 0 t_3 rfl ht_3 h) ⟨rfl, rfl⟩ ⟨Nat.le_of_ble_eq_true rfl, Nat.le_of_ble_eq_true rfl⟩ ⟨Nat.zero_le _, Nat.zero_le _⟩ rfl rfl hl.1 (Nat.le_of_ble_eq_true rfl) dX5_thermometer_109 (fun r_5 H1 L1 P hf => ?_)
                refine r_jn (fun k120 : Int32 → Option ((Nat × Int32) × OM) => ∀ (s_6 : Int32) H1 L1 ls, Hp G o_2 s H1 L1 → lv_has ls 4 [] → k120 s_6 = some (r, o9) → W p l e (rmx rmX5_thermometer r.1) s m args below meth c H1 L1 0 0 (Qxm G r.1 (some (.int r.2)) o9 below args s) (F0 m 120 ls [.int s_6])) hf ?_ (fun k120 j120 hf => ?_)
                · intro s_6 H1 L1 ls  P hl hf
                  exact x_iret C P dX5_thermometer_120 hf
                refine r_if_eq C dX5_thermometer_112 hf (fun hf => ?_) (fun hf => ?_)
                · refine r_iconst C (v := 0) (by decide) dX5_thermometer_119 ?_
                  exact j120 ((0 : Int32)) _ _ _ P (lv_sub hl [] rfl) hf
                · refine r_iconst C (v := 1) (by decide) dX5_thermometer_115 ?_
                  refine r_goto C dX5_thermometer_116 ?_
                  exact j120 ((1 : Int32)) _ _ _ P (lv_sub hl [] rfl) hf
              · refine r_ite hf (fun hc7 hf => ?_) (fun hc7 hf => ?_)
                · refine lv_tableIn C.1 C.2.1 (off := 105) (tgt := 121) dX5_thermometer_16.1 (by rw [hc7] <;> decide) (by rw [hc7] <;> decide) (by rw [hc7] <;> decide) rfl ?_
                  refine r_aload_n C hl 1 rfl rfl dX5_thermometer_121 ?_
                  refine gf_0_0 C P rfl wd_208 dX5_thermometer_122 ?_
                  refine r_aload_n C hl 0 rfl rfl dX5_thermometer_125 ?_
                  refine r_qVi C P cf_X5_130 (rm := rmX2_reasonForNoPaper) 1 0 (fun _ _ => ⟨_, rfl⟩) rfl rfl rfl [.ref (rA G 5 t_3)] [] hf (fun _ h => ctX2_reasonForNoPaper l G o_2 0 t_3 rfl ht_3 h) ⟨rfl, rfl⟩ ⟨Nat.le_of_ble_eq_true rfl, Nat.le_of_ble_eq_true rfl⟩ ⟨Nat.zero_le _, Nat.zero_le _⟩ rfl rfl hl.1 (Nat.le_of_ble_eq_true rfl) dX5_thermometer_126 (fun r_7 H1 L1 P hf => ?_)
                  exact x_iret C P dX5_thermometer_129 hf
                · refine r_ite hf (fun hc8 hf => ?_) (fun hc8 hf => ?_)
                  · refine lv_tableIn C.1 C.2.1 (off := 114) (tgt := 130) dX5_thermometer_16.1 (by rw [hc8] <;> decide) (by rw [hc8] <;> decide) (by rw [hc8] <;> decide) rfl ?_
                    refine r_aload_n C hl 0 rfl rfl dX5_thermometer_130 ?_
                    refine gf_5_7 C P ht_3 wd_114 dX5_thermometer_131 ?_
                    refine r_qVi C P cf_X5_225 (rm := rmX1_widestGap) 6 t_3 (fun _ _ => ⟨_, rfl⟩) rfl rfl ht_3 [] [] hf (fun _ h => ctX1_widestGap l G o_2 t_3 ht_3 h) ⟨rfl, rfl⟩ ⟨Nat.le_of_ble_eq_true rfl, Nat.le_of_ble_eq_true rfl⟩ ⟨Nat.zero_le _, Nat.zero_le _⟩ rfl rfl hl.1 (Nat.le_of_ble_eq_true rfl) dX5_thermometer_134 (fun r_8 H1 L1 P hf => ?_)
                    exact x_iret C P dX5_thermometer_137 hf
                  · refine lv_tableOut C.1 C.2.1 (tgt := 138) dX5_thermometer_16.1 (by have q0 := lv_neT hc0 (a := 0) rfl; have q1 := lv_neT hc1 (a := 1) rfl; have q2 := lv_neT hc2 (a := 2) rfl; have q3 := lv_neT hc3 (a := 3) rfl; have q4 := lv_neT hc4 (a := 4) rfl; have q5 := lv_neT hc5 (a := 5) rfl; have q6 := lv_neT hc6 (a := 6) rfl; have q7 := lv_neT hc7 (a := 7) rfl; have q8 := lv_neT hc8 (a := 8) rfl; omega) rfl ?_
                    exact x_throw C E0 X hl9 P (E := "java/lang/IllegalArgumentException") (tx := "what is not 0 to 8") (ik := 37) (is := 228) (ic := 41) ⟨rfl, by decide, by decide, wd_322, wd_19, th_1a, th_1b, th_1c, by decide⟩ (rm := rmX5_thermometer) ⟨Nat.le_of_ble_eq_true rfl, Nat.le_of_ble_eq_true rfl⟩ hl.1 eX5_thermometer_138 eX5_thermometer_141 eX5_thermometer_142 eX5_thermometer_144 eX5_thermometer_147 hf
theorem ctX5_thermometer (l : Launch) (G : Gd) (hl9 : l.stackTraces = false) (o : OM) (v1 : Int32) (v2 : Int32)  {r : (Nat × Int32)} {o9 : OM} (hf : F_X5_thermometer o v1 v2 = some (r, o9)) : Cte l yX5_thermometer cX5_thermometer 4 (some .int) rmX5_thermometer G [.ref (rA G 0 0), .int v1, .int v2] o r.1 (some (.int r.2)) o9 := cte_of (by decide +kernel) (Nat.le_of_ble_eq_true rfl) (fun p e s m below meth c ls C E0 X P hl => wX5_thermometer C E0 X hl9  P hl hf)
theorem dX5_point_0 : Dc cX5_point 0 (.aload_n 0) 1 1 := ⟨by decide +kernel, rfl⟩
theorem dX5_point_1 : Dc cX5_point 1 (.iload_n 1) 1 2 := ⟨by decide +kernel, rfl⟩
theorem dX5_point_2 : Dc cX5_point 2 (.invokevirtual 65) 3 5 := ⟨by decide +kernel, rfl⟩
theorem dX5_point_5 : Dc cX5_point 5 (.iload_n 2) 1 6 := ⟨by decide +kernel, rfl⟩
theorem dX5_point_6 : Dj cX5_point 6 (.ifCond .ge 13) 3 9 (13) 19 := ⟨by decide +kernel, rfl, by decide⟩
theorem dX5_point_19 : Dc cX5_point 19 (.iload_n 3) 1 20 := ⟨by decide +kernel, rfl⟩
theorem dX5_point_20 : Dc cX5_point 20 (.iconst 0) 1 21 := ⟨by decide +kernel, rfl⟩
theorem dX5_point_21 : Dc cX5_point 21 (.iconst 3) 1 22 := ⟨by decide +kernel, rfl⟩
theorem dX5_point_22 : Dc cX5_point 22 (.invokestatic 33) 3 25 := ⟨by decide +kernel, rfl⟩
theorem dX5_point_25 : Dj cX5_point 25 (.ifCond .ne 13) 3 28 (13) 38 := ⟨by decide +kernel, rfl, by decide⟩
theorem dX5_point_38 : Dc cX5_point 38 (.aload_n 0) 1 39 := ⟨by decide +kernel, rfl⟩
theorem dX5_point_39 : Dc cX5_point 39 (.getfield 10) 3 42 := ⟨by decide +kernel, rfl⟩
theorem dX5_point_42 : Dc cX5_point 42 (.getfield 69) 3 45 := ⟨by decide +kernel, rfl⟩
theorem dX5_point_45 : Dc cX5_point 45 (.iload_n 1) 1 46 := ⟨by decide +kernel, rfl⟩
theorem dX5_point_46 : Dc cX5_point 46 (.aaload) 1 47 := ⟨by decide +kernel, rfl⟩
theorem dX5_point_47 : Dc cX5_point 47 (.getfield 73) 3 50 := ⟨by decide +kernel, rfl⟩
theorem dX5_point_50 : Dc cX5_point 50 (.astore 4) 2 52 := ⟨by decide +kernel, rfl⟩
theorem dX5_point_52 : Dc cX5_point 52 (.iload_n 2) 1 53 := ⟨by decide +kernel, rfl⟩
theorem dX5_point_53 : Dc cX5_point 53 (.aload 4) 2 55 := ⟨by decide +kernel, rfl⟩
theorem dX5_point_55 : Dc cX5_point 55 (.getfield 79) 3 58 := ⟨by decide +kernel, rfl⟩
theorem dX5_point_58 : Dj cX5_point 58 (.if_icmp .lt 5) 3 61 (5) 63 := ⟨by decide +kernel, rfl, by decide⟩
theorem dX5_point_61 : Dc cX5_point 61 (.iconst (-1)) 1 62 := ⟨by decide +kernel, rfl⟩
theorem dX5_point_62 : Dc cX5_point 62 (.ireturn) 1 63 := ⟨by decide +kernel, rfl⟩
theorem dX5_point_63 : Dc cX5_point 63 (.aload 4) 2 65 := ⟨by decide +kernel, rfl⟩
theorem dX5_point_65 : Dc cX5_point 65 (.getfield 234) 3 68 := ⟨by decide +kernel, rfl⟩
theorem dX5_point_68 : Dc cX5_point 68 (.iload_n 2) 1 69 := ⟨by decide +kernel, rfl⟩
theorem dX5_point_69 : Dc cX5_point 69 (.iaload) 1 70 := ⟨by decide +kernel, rfl⟩
theorem dX5_point_70 : Dc cX5_point 70 (.istore 5) 2 72 := ⟨by decide +kernel, rfl⟩
theorem dX5_point_72 : Dc cX5_point 72 (.iload_n 3) 1 73 := ⟨by decide +kernel, rfl⟩
theorem dX5_point_73 : Dc cX5_point 73 (.tableswitch 62 0 2 #[27, 40, 53]) 27 100 := ⟨by decide +kernel, rfl⟩
theorem dX5_point_100 : Dc cX5_point 100 (.aload 4) 2 102 := ⟨by decide +kernel, rfl⟩
theorem dX5_point_102 : Dc cX5_point 102 (.getfield 237) 3 105 := ⟨by decide +kernel, rfl⟩
theorem dX5_point_105 : Dc cX5_point 105 (.iload 5) 2 107 := ⟨by decide +kernel, rfl⟩
theorem dX5_point_107 : Dc cX5_point 107 (.iaload) 1 108 := ⟨by decide +kernel, rfl⟩
theorem dX5_point_108 : Dc cX5_point 108 (.sipush 10000) 3 111 := ⟨by decide +kernel, rfl⟩
theorem dX5_point_111 : Dc cX5_point 111 (.iadd) 1 112 := ⟨by decide +kernel, rfl⟩
theorem dX5_point_112 : Dc cX5_point 112 (.ireturn) 1 113 := ⟨by decide +kernel, rfl⟩
theorem dX5_point_113 : Dc cX5_point 113 (.aload 4) 2 115 := ⟨by decide +kernel, rfl⟩
theorem dX5_point_115 : Dc cX5_point 115 (.getfield 240) 3 118 := ⟨by decide +kernel, rfl⟩
theorem dX5_point_118 : Dc cX5_point 118 (.iload 5) 2 120 := ⟨by decide +kernel, rfl⟩
theorem dX5_point_120 : Dc cX5_point 120 (.iaload) 1 121 := ⟨by decide +kernel, rfl⟩
theorem dX5_point_121 : Dc cX5_point 121 (.sipush 10000) 3 124 := ⟨by decide +kernel, rfl⟩
theorem dX5_point_124 : Dc cX5_point 124 (.iadd) 1 125 := ⟨by decide +kernel, rfl⟩
theorem dX5_point_125 : Dc cX5_point 125 (.ireturn) 1 126 := ⟨by decide +kernel, rfl⟩
theorem dX5_point_126 : Dc cX5_point 126 (.aload 4) 2 128 := ⟨by decide +kernel, rfl⟩
theorem dX5_point_128 : Dc cX5_point 128 (.getfield 243) 3 131 := ⟨by decide +kernel, rfl⟩
theorem dX5_point_131 : Dc cX5_point 131 (.iload 5) 2 133 := ⟨by decide +kernel, rfl⟩
theorem dX5_point_133 : Dc cX5_point 133 (.iaload) 1 134 := ⟨by decide +kernel, rfl⟩
theorem dX5_point_134 : Dc cX5_point 134 (.ireturn) 1 135 := ⟨by decide +kernel, rfl⟩
theorem dX5_point_135 : Dc cX5_point 135 (.aload 4) 2 137 := ⟨by decide +kernel, rfl⟩
theorem dX5_point_137 : Dc cX5_point 137 (.getfield 245) 3 140 := ⟨by decide +kernel, rfl⟩
theorem dX5_point_140 : Dc cX5_point 140 (.iload 5) 2 142 := ⟨by decide +kernel, rfl⟩
theorem dX5_point_142 : Dc cX5_point 142 (.iaload) 1 143 := ⟨by decide +kernel, rfl⟩
theorem dX5_point_143 : Dc cX5_point 143 (.ireturn) 1 144 := ⟨by decide +kernel, rfl⟩
theorem eX5_point_9 : decode cX5_point 9 = .ok (.new 37, 3) := by decide +kernel
theorem eX5_point_12 : decode cX5_point 12 = .ok (.dup, 1) := by decide +kernel
theorem eX5_point_13 : decode cX5_point 13 = .ok (.ldc 230, 2) := by decide +kernel
theorem eX5_point_15 : decode cX5_point 15 = .ok (.invokespecial 41, 3) := by decide +kernel
theorem eX5_point_18 : decode cX5_point 18 = .ok (.athrow, 1) := by decide +kernel
theorem eX5_point_28 : decode cX5_point 28 = .ok (.new 37, 3) := by decide +kernel
theorem eX5_point_31 : decode cX5_point 31 = .ok (.dup, 1) := by decide +kernel
theorem eX5_point_32 : decode cX5_point 32 = .ok (.ldc 232, 2) := by decide +kernel
theorem eX5_point_34 : decode cX5_point 34 = .ok (.invokespecial 41, 3) := by decide +kernel
theorem eX5_point_37 : decode cX5_point 37 = .ok (.athrow, 1) := by decide +kernel
def F_X5_point (o : OM) (v1 : Int32) (v2 : Int32) (v3 : Int32) : Option ((Nat × Int32) × OM) := bx (F_X5_needThermometer o v1) (0 : Int32) (fun _ o_2 => if 0 ≤ v2 then (bq (F_X5_isWithin o_2 v3 ((0 : Int32)) ((3 : Int32))) (fun r_3 => if r_3 = 0 then (some ((1, 0), o_2)) else (grd (inB v1 6) (bd (tid 0 (rd o_2 4 0 v1.toNatClampNeg)) (fun t_4 : Nat => if v2 < (rd o_2 6 t_4 0) then (grd (inB v2 10) (bd (rd o_2 13 t_4 v2.toNatClampNeg) (fun v5_5 : Int32 => if v3 = 0 then (grd (inB v5_5 10) (some ((0, ((rd o_2 7 t_4 v5_5.toNatClampNeg) + ((10000 : Int32)))), o_2))) else (if v3 = 1 then (grd (inB v5_5 10) (some ((0, ((rd o_2 8 t_4 v5_5.toNatClampNeg) + ((10000 : Int32)))), o_2))) else (if v3 = 2 then (grd (inB v5_5 10) (some ((0, (rd o_2 9 t_4 v5_5.toNatClampNeg)), o_2))) else (grd (inB v5_5 10) (some ((0, (rd o_2 12 t_4 v5_5.toNatClampNeg)), o_2)))))))) else (some ((0, ((-1 : Int32))), o_2))))))) else (some ((1, 0), o_2)))
abbrev rmX5_point : Room := { frames := 7, cells := 0, slots := 0, locals := 103 }
set_option maxHeartbeats 4000000 in
set_option maxRecDepth 100000 in
theorem wX5_point {G : Gd} {p : Program} {l : Launch} {e : Env} {s : State} {m : MethodId} {args : Array Value} {below : List Frame} {meth : Method} {c : Code} {o : OM} {H : Heap} {L0 : List Loc} {ls : Array Slot} {r : (Nat × Int32)} {o9 : OM} {v1 : Int32} {v2 : Int32} {v3 : Int32} (C : Cx G RX5 cX5_point 6 (some .int) p s m args meth c) (E0 : Cex c) (X : XF G s) (hl9 : l.stackTraces = false)  (P : Hp G o s H L0) (hl : lv_has ls 6 [(0, .ref (rA G 0 0)), (1, .int v1), (2, .int v2), (3, .int v3)]) (hf : F_X5_point o v1 v2 v3 = some (r, o9)) : W p l e (rmx rmX5_point r.1) s m args below meth c H L0 0 0 (Qxm G r.1 (some (.int r.2)) o9 below args s) (F0 m 0 ls []) := by
  unfold F_X5_point at hf
  refine r_aload_n C hl 0 rfl rfl dX5_point_0 ?_
  refine r_iload_n C hl 1 rfl rfl dX5_point_1 ?_
  refine x_cVv C E0 X P cf_X5_65 (rm := rmX5_needThermometer) (rm9 := rmX5_point) 0 0 (fun _ _ => ⟨_, rfl⟩) rfl rfl rfl [.int v1] [] hf (fun _ _ h => ctX5_needThermometer l G hl9 o v1 h) ⟨Nat.le_of_ble_eq_true rfl, Nat.le_of_ble_eq_true rfl⟩ rfl rfl hl.1 (Nat.le_of_ble_eq_true rfl) dX5_point_2 (fun _ o_2 H1 L1 P hf => ?_)
  refine r_iload_n C hl 2 rfl rfl dX5_point_5 ?_
  refine r_if_ge C dX5_point_6 hf (fun hf => ?_) (fun hf => ?_)
  · refine r_iload_n C hl 3 rfl rfl dX5_point_19 ?_
    refine r_iconst C (v := 0) (by decide) dX5_point_20 ?_
    refine r_iconst C (v := 3) (by decide) dX5_point_21 ?_
    refine r_qSi C P cf_X5_33 (rm := rmX5_isWithin) [.int v3, .int ((0 : Int32)), .int ((3 : Int32))] [] hf (fun _ h => ctX5_isWithin l G o_2 v3 ((0 : Int32)) ((3 : Int32)) h) ⟨rfl, rfl⟩ ⟨Nat.le_of_ble_eq_true rfl, Nat.le_of_ble_eq_true rfl⟩ ⟨Nat.zero_le _, Nat.zero_le _⟩ rfl rfl hl.1 (Nat.le_of_ble_eq_true rfl) dX5_point_22 (fun r_3 H1 L1 P hf => ?_)
    refine r_if_ne C dX5_point_25 hf (fun hf => ?_) (fun hf => ?_)
    · refine r_aload_n C hl 0 rfl rfl dX5_point_38 ?_
      refine gf_0_0 C P rfl wd_208 dX5_point_39 ?_
      refine gf_1_7 C P rfl wd_148 dX5_point_42 ?_
      refine r_iload_n C hl 1 rfl rfl dX5_point_45 ?_
      refine r_aldT C P rfl dX5_point_46 hf (fun t_4 ht_4 hf => ?_)
      refine gf_5_7 C P ht_4 wd_114 dX5_point_47 ?_
      refine r_astore C [(4, .ref (rA G 6 t_4)), (0, .ref (rA G 0 0)), (1, .int v1), (2, .int v2), (3, .int v3)] hl (by decide) rfl dX5_point_50 (fun ls hl => ?_)
      refine r_iload_n C hl 3 rfl rfl dX5_point_52 ?_
      refine r_aload C hl 0 rfl dX5_point_53 ?_
      refine gf_6_0 C P ht_4 wd_64 dX5_point_55 ?_
      refine r_icmp_lt C dX5_point_58 hf (fun hf => ?_) (fun hf => ?_)
      · refine r_aload C hl 0 rfl dX5_point_63 ?_
        refine gf_6_7 C P ht_4 wd_78 dX5_point_65 ?_
        refine r_iload_n C hl 3 rfl rfl dX5_point_68 ?_
        refine r_iald C P (k := 13) (i := t_4) (n := 10) (fun _ _ => rfl) ht_4 dX5_point_69 hf (fun hf => ?_)
        refine r_bdi hf (fun v5_5 hf => ?_)
        refine r_istore C [(5, .int v5_5), (4, .ref (rA G 6 t_4)), (0, .ref (rA G 0 0)), (1, .int v1), (2, .int v2), (3, .int v3)] hl (by decide) rfl dX5_point_70 (fun ls hl => ?_)
        refine r_iload_n C hl 5 rfl rfl dX5_point_72 ?_
        refine r_ite hf (fun hc0 hf => ?_) (fun hc0 hf => ?_)
        · refine lv_tableIn C.1 C.2.1 (off := 27) (tgt := 100) dX5_point_73.1 (by rw [hc0] <;> decide) (by rw [hc0] <;> decide) (by rw [hc0] <;> decide) rfl ?_
          refine r_aload C hl 1 rfl dX5_point_100 ?_
          refine gf_6_1 C P ht_4 wd_67 dX5_point_102 ?_
          refine r_iload C hl 0 rfl dX5_point_105 ?_
          refine r_iald C P (k := 7) (i := t_4) (n := 10) (fun _ _ => rfl) ht_4 dX5_point_107 hf (fun hf => ?_)
          refine r_sipush C (v := 10000) (by decide) dX5_point_108 ?_
          refine r_iadd2 C dX5_point_111 ?_
          exact x_iret C P dX5_point_112 hf
        · refine r_ite hf (fun hc1 hf => ?_) (fun hc1 hf => ?_)
          · refine lv_tableIn C.1 C.2.1 (off := 40) (tgt := 113) dX5_point_73.1 (by rw [hc1] <;> decide) (by rw [hc1] <;> decide) (by rw [hc1] <;> decide) rfl ?_
            refine r_aload C hl 1 rfl dX5_point_113 ?_
            refine gf_6_2 C P ht_4 wd_69 dX5_point_115 ?_
            refine r_iload C hl 0 rfl dX5_point_118 ?_
            refine r_iald C P (k := 8) (i := t_4) (n := 10) (fun _ _ => rfl) ht_4 dX5_point_120 hf (fun hf => ?_)
            refine r_sipush C (v := 10000) (by decide) dX5_point_121 ?_
            refine r_iadd2 C dX5_point_124 ?_
            exact x_iret C P dX5_point_125 hf
          · refine r_ite hf (fun hc2 hf => ?_) (fun hc2 hf => ?_)
            · refine lv_tableIn C.1 C.2.1 (off := 53) (tgt := 126) dX5_point_73.1 (by rw [hc2] <;> decide) (by rw [hc2] <;> decide) (by rw [hc2] <;> decide) rfl ?_
              refine r_aload C hl 1 rfl dX5_point_126 ?_
              refine gf_6_3 C P ht_4 wd_72 dX5_point_128 ?_
              refine r_iload C hl 0 rfl dX5_point_131 ?_
              refine r_iald C P (k := 9) (i := t_4) (n := 10) (fun _ _ => rfl) ht_4 dX5_point_133 hf (fun hf => ?_)
              exact x_iret C P dX5_point_134 hf
            · refine lv_tableOut C.1 C.2.1 (tgt := 135) dX5_point_73.1 (by have q0 := lv_neT hc0 (a := 0) rfl; have q1 := lv_neT hc1 (a := 1) rfl; have q2 := lv_neT hc2 (a := 2) rfl; omega) rfl ?_
              refine r_aload C hl 1 rfl dX5_point_135 ?_
              refine gf_6_6 C P ht_4 wd_76 dX5_point_137 ?_
              refine r_iload C hl 0 rfl dX5_point_140 ?_
              refine r_iald C P (k := 12) (i := t_4) (n := 10) (fun _ _ => rfl) ht_4 dX5_point_142 hf (fun hf => ?_)
              exact x_iret C P dX5_point_143 hf
      · refine r_iconst C (v := -1) (by decide) dX5_point_61 ?_
        exact x_iret C P dX5_point_62 hf
    · exact x_throw C E0 X hl9 P (E := "java/lang/IllegalArgumentException") (tx := "what is not 0 to 3") (ik := 37) (is := 232) (ic := 41) ⟨rfl, by decide, by decide, wd_322, wd_19, th_1a, th_1b, th_1c, by decide⟩ (rm := rmX5_point) ⟨Nat.le_of_ble_eq_true rfl, Nat.le_of_ble_eq_true rfl⟩ hl.1 eX5_point_28 eX5_point_31 eX5_point_32 eX5_point_34 eX5_point_37 hf
  · exact x_throw C E0 X hl9 P (E := "java/lang/IllegalArgumentException") (tx := "place is below 0") (ik := 37) (is := 230) (ic := 41) ⟨rfl, by decide, by decide, wd_322, wd_19, th_1a, th_1b, th_1c, by decide⟩ (rm := rmX5_point) ⟨Nat.le_of_ble_eq_true rfl, Nat.le_of_ble_eq_true rfl⟩ hl.1 eX5_point_9 eX5_point_12 eX5_point_13 eX5_point_15 eX5_point_18 hf
theorem ctX5_point (l : Launch) (G : Gd) (hl9 : l.stackTraces = false) (o : OM) (v1 : Int32) (v2 : Int32) (v3 : Int32)  {r : (Nat × Int32)} {o9 : OM} (hf : F_X5_point o v1 v2 v3 = some (r, o9)) : Cte l yX5_point cX5_point 6 (some .int) rmX5_point G [.ref (rA G 0 0), .int v1, .int v2, .int v3] o r.1 (some (.int r.2)) o9 := cte_of (by decide +kernel) (Nat.le_of_ble_eq_true rfl) (fun p e s m below meth c ls C E0 X P hl => wX5_point C E0 X hl9  P hl hf)
theorem cf_X5_250 : CallF false RX5 250 yX2_allPoints cX2_allPoints 3 (some .int) 0 := ⟨wd_338, (by rw [if_neg (by decide)]; exact ⟨wd_339, wd_340⟩), wd_11, wd_341, by decide, by decide +kernel⟩
theorem cf_X5_259 : CallF false RX5 259 yX2_allCrept cX2_allCrept 3 (some .int) 0 := ⟨wd_350, (by rw [if_neg (by decide)]; exact ⟨wd_351, wd_352⟩), wd_11, wd_353, by decide, by decide +kernel⟩
theorem dX5_count_0 : Dc cX5_count 0 (.iload_n 1) 1 1 := ⟨by decide +kernel, rfl⟩
theorem dX5_count_1 : Dc cX5_count 1 (.iconst 0) 1 2 := ⟨by decide +kernel, rfl⟩
theorem dX5_count_2 : Dc cX5_count 2 (.bipush 17) 2 4 := ⟨by decide +kernel, rfl⟩
theorem dX5_count_4 : Dc cX5_count 4 (.invokestatic 33) 3 7 := ⟨by decide +kernel, rfl⟩
theorem dX5_count_7 : Dj cX5_count 7 (.ifCond .ne 13) 3 10 (13) 20 := ⟨by decide +kernel, rfl, by decide⟩
theorem dX5_count_20 : Dc cX5_count 20 (.iload_n 1) 1 21 := ⟨by decide +kernel, rfl⟩
theorem dX5_count_21 : Dc cX5_count 21 (.bipush 10) 2 23 := ⟨by decide +kernel, rfl⟩
theorem dX5_count_23 : Dj cX5_count 23 (.if_icmp .lt 22) 3 26 (22) 45 := ⟨by decide +kernel, rfl, by decide⟩
theorem dX5_count_26 : Dc cX5_count 26 (.iload_n 1) 1 27 := ⟨by decide +kernel, rfl⟩
theorem dX5_count_27 : Dc cX5_count 27 (.bipush 16) 2 29 := ⟨by decide +kernel, rfl⟩
theorem dX5_count_29 : Dj cX5_count 29 (.if_icmp .gt 16) 3 32 (16) 45 := ⟨by decide +kernel, rfl, by decide⟩
theorem dX5_count_32 : Dc cX5_count 32 (.aload_n 0) 1 33 := ⟨by decide +kernel, rfl⟩
theorem dX5_count_33 : Dc cX5_count 33 (.getfield 10) 3 36 := ⟨by decide +kernel, rfl⟩
theorem dX5_count_36 : Dc cX5_count 36 (.getfield 113) 3 39 := ⟨by decide +kernel, rfl⟩
theorem dX5_count_39 : Dc cX5_count 39 (.iload_n 1) 1 40 := ⟨by decide +kernel, rfl⟩
theorem dX5_count_40 : Dc cX5_count 40 (.bipush 10) 2 42 := ⟨by decide +kernel, rfl⟩
theorem dX5_count_42 : Dc cX5_count 42 (.isub) 1 43 := ⟨by decide +kernel, rfl⟩
theorem dX5_count_43 : Dc cX5_count 43 (.iaload) 1 44 := ⟨by decide +kernel, rfl⟩
theorem dX5_count_44 : Dc cX5_count 44 (.ireturn) 1 45 := ⟨by decide +kernel, rfl⟩
theorem dX5_count_45 : Dc cX5_count 45 (.iload_n 1) 1 46 := ⟨by decide +kernel, rfl⟩
theorem dX5_count_46 : Dc cX5_count 46 (.bipush 6) 2 48 := ⟨by decide +kernel, rfl⟩
theorem dX5_count_48 : Dj cX5_count 48 (.if_icmp .lt 26) 3 51 (26) 74 := ⟨by decide +kernel, rfl, by decide⟩
theorem dX5_count_51 : Dc cX5_count 51 (.iload_n 1) 1 52 := ⟨by decide +kernel, rfl⟩
theorem dX5_count_52 : Dc cX5_count 52 (.bipush 9) 2 54 := ⟨by decide +kernel, rfl⟩
theorem dX5_count_54 : Dj cX5_count 54 (.if_icmp .gt 20) 3 57 (20) 74 := ⟨by decide +kernel, rfl, by decide⟩
theorem dX5_count_57 : Dc cX5_count 57 (.aload_n 0) 1 58 := ⟨by decide +kernel, rfl⟩
theorem dX5_count_58 : Dc cX5_count 58 (.getfield 10) 3 61 := ⟨by decide +kernel, rfl⟩
theorem dX5_count_61 : Dc cX5_count 61 (.getfield 91) 3 64 := ⟨by decide +kernel, rfl⟩
theorem dX5_count_64 : Dc cX5_count 64 (.iload_n 1) 1 65 := ⟨by decide +kernel, rfl⟩
theorem dX5_count_65 : Dc cX5_count 65 (.bipush 6) 2 67 := ⟨by decide +kernel, rfl⟩
theorem dX5_count_67 : Dc cX5_count 67 (.isub) 1 68 := ⟨by decide +kernel, rfl⟩
theorem dX5_count_68 : Dc cX5_count 68 (.iaload) 1 69 := ⟨by decide +kernel, rfl⟩
theorem dX5_count_69 : Dc cX5_count 69 (.sipush 10000) 3 72 := ⟨by decide +kernel, rfl⟩
theorem dX5_count_72 : Dc cX5_count 72 (.iadd) 1 73 := ⟨by decide +kernel, rfl⟩
theorem dX5_count_73 : Dc cX5_count 73 (.ireturn) 1 74 := ⟨by decide +kernel, rfl⟩
theorem dX5_count_74 : Dc cX5_count 74 (.iload_n 1) 1 75 := ⟨by decide +kernel, rfl⟩
theorem dX5_count_75 : Dc cX5_count 75 (.tableswitch 85 0 5 #[37, 45, 53, 61, 69, 77]) 37 112 := ⟨by decide +kernel, rfl⟩
theorem dX5_count_112 : Dc cX5_count 112 (.aload_n 0) 1 113 := ⟨by decide +kernel, rfl⟩
theorem dX5_count_113 : Dc cX5_count 113 (.getfield 10) 3 116 := ⟨by decide +kernel, rfl⟩
theorem dX5_count_116 : Dc cX5_count 116 (.getfield 100) 3 119 := ⟨by decide +kernel, rfl⟩
theorem dX5_count_119 : Dc cX5_count 119 (.ireturn) 1 120 := ⟨by decide +kernel, rfl⟩
theorem dX5_count_120 : Dc cX5_count 120 (.aload_n 0) 1 121 := ⟨by decide +kernel, rfl⟩
theorem dX5_count_121 : Dc cX5_count 121 (.getfield 10) 3 124 := ⟨by decide +kernel, rfl⟩
theorem dX5_count_124 : Dc cX5_count 124 (.getfield 61) 3 127 := ⟨by decide +kernel, rfl⟩
theorem dX5_count_127 : Dc cX5_count 127 (.ireturn) 1 128 := ⟨by decide +kernel, rfl⟩
theorem dX5_count_128 : Dc cX5_count 128 (.aload_n 0) 1 129 := ⟨by decide +kernel, rfl⟩
theorem dX5_count_129 : Dc cX5_count 129 (.getfield 10) 3 132 := ⟨by decide +kernel, rfl⟩
theorem dX5_count_132 : Dc cX5_count 132 (.invokevirtual 250) 3 135 := ⟨by decide +kernel, rfl⟩
theorem dX5_count_135 : Dc cX5_count 135 (.ireturn) 1 136 := ⟨by decide +kernel, rfl⟩
theorem dX5_count_136 : Dc cX5_count 136 (.aload_n 0) 1 137 := ⟨by decide +kernel, rfl⟩
theorem dX5_count_137 : Dc cX5_count 137 (.getfield 10) 3 140 := ⟨by decide +kernel, rfl⟩
theorem dX5_count_140 : Dc cX5_count 140 (.invokevirtual 253) 3 143 := ⟨by decide +kernel, rfl⟩
theorem dX5_count_143 : Dc cX5_count 143 (.ireturn) 1 144 := ⟨by decide +kernel, rfl⟩
theorem dX5_count_144 : Dc cX5_count 144 (.aload_n 0) 1 145 := ⟨by decide +kernel, rfl⟩
theorem dX5_count_145 : Dc cX5_count 145 (.getfield 10) 3 148 := ⟨by decide +kernel, rfl⟩
theorem dX5_count_148 : Dc cX5_count 148 (.getfield 256) 3 151 := ⟨by decide +kernel, rfl⟩
theorem dX5_count_151 : Dc cX5_count 151 (.ireturn) 1 152 := ⟨by decide +kernel, rfl⟩
theorem dX5_count_152 : Dc cX5_count 152 (.aload_n 0) 1 153 := ⟨by decide +kernel, rfl⟩
theorem dX5_count_153 : Dc cX5_count 153 (.getfield 10) 3 156 := ⟨by decide +kernel, rfl⟩
theorem dX5_count_156 : Dc cX5_count 156 (.invokevirtual 259) 3 159 := ⟨by decide +kernel, rfl⟩
theorem dX5_count_159 : Dc cX5_count 159 (.ireturn) 1 160 := ⟨by decide +kernel, rfl⟩
theorem dX5_count_160 : Dc cX5_count 160 (.aload_n 0) 1 161 := ⟨by decide +kernel, rfl⟩
theorem dX5_count_161 : Dc cX5_count 161 (.getfield 22) 3 164 := ⟨by decide +kernel, rfl⟩
theorem dX5_count_164 : Dc cX5_count 164 (.getfield 180) 3 167 := ⟨by decide +kernel, rfl⟩
theorem dX5_count_167 : Dc cX5_count 167 (.ireturn) 1 168 := ⟨by decide +kernel, rfl⟩
theorem eX5_count_10 : decode cX5_count 10 = .ok (.new 37, 3) := by decide +kernel
theorem eX5_count_13 : decode cX5_count 13 = .ok (.dup, 1) := by decide +kernel
theorem eX5_count_14 : decode cX5_count 14 = .ok (.ldc 248, 2) := by decide +kernel
theorem eX5_count_16 : decode cX5_count 16 = .ok (.invokespecial 41, 3) := by decide +kernel
theorem eX5_count_19 : decode cX5_count 19 = .ok (.athrow, 1) := by decide +kernel
def F_X5_count (o : OM) (v1 : Int32) : Option ((Nat × Int32) × OM) := bq (F_X5_isWithin o v1 ((0 : Int32)) ((17 : Int32))) (fun r_1 => if r_1 = 0 then (some ((1, 0), o)) else (bd (fun (_ : Unit) => bd (fun (_ : Unit) => if v1 = 0 then (some ((0, (rd o 1 0 0)), o)) else (if v1 = 1 then (some ((0, (rd o 1 0 2)), o)) else (if v1 = 2 then (bq (F_X2_allPoints o 0) (fun r_2 => some ((0, r_2), o))) else (if v1 = 3 then (bq (F_X2_validPapers o 0) (fun r_3 => some ((0, r_3), o))) else (if v1 = 4 then (some ((0, (rd o 1 0 1)), o)) else (if v1 = 5 then (bq (F_X2_allCrept o 0) (fun r_4 => some ((0, r_4), o))) else (some ((0, (rd o 14 0 0)), o)))))))) (fun k74 => if v1 < ((6 : Int32)) then (k74 ()) else (if ((9 : Int32)) < v1 then (k74 ()) else (grd (inB (v1 - ((6 : Int32))) 4) (some ((0, ((rd o 2 0 (v1 - ((6 : Int32))).toNatClampNeg) + ((10000 : Int32)))), o)))))) (fun k45 => if v1 < ((10 : Int32)) then (k45 ()) else (if ((16 : Int32)) < v1 then (k45 ()) else (grd (inB (v1 - ((10 : Int32))) 7) (some ((0, (rd o 3 0 (v1 - ((10 : Int32))).toNatClampNeg)), o)))))))
abbrev rmX5_count : Room := { frames := 6, cells := 0, slots := 0, locals := 82 }
set_option maxHeartbeats 4000000 in
set_option maxRecDepth 100000 in
theorem wX5_count {G : Gd} {p : Program} {l : Launch} {e : Env} {s : State} {m : MethodId} {args : Array Value} {below : List Frame} {meth : Method} {c : Code} {o : OM} {H : Heap} {L0 : List Loc} {ls : Array Slot} {r : (Nat × Int32)} {o9 : OM} {v1 : Int32} (C : Cx G RX5 cX5_count 2 (some .int) p s m args meth c) (E0 : Cex c) (X : XF G s) (hl9 : l.stackTraces = false)  (P : Hp G o s H L0) (hl : lv_has ls 2 [(0, .ref (rA G 0 0)), (1, .int v1)]) (hf : F_X5_count o v1 = some (r, o9)) : W p l e (rmx rmX5_count r.1) s m args below meth c H L0 0 0 (Qxm G r.1 (some (.int r.2)) o9 below args s) (F0 m 0 ls []) := by
  unfold F_X5_count at hf
  refine r_iload_n C hl 1 rfl rfl dX5_count_0 ?_
  refine r_iconst C (v := 0) (by decide) dX5_count_1 ?_
  refine r_bipush C (v := 17) (by decide) dX5_count_2 ?_
  refine r_qSi C P cf_X5_33 (rm := rmX5_isWithin) [.int v1, .int ((0 : Int32)), .int ((17 : Int32))] [] hf (fun _ h => ctX5_isWithin l G o v1 ((0 : Int32)) ((17 : Int32)) h) ⟨rfl, rfl⟩ ⟨Nat.le_of_ble_eq_true rfl, Nat.le_of_ble_eq_true rfl⟩ ⟨Nat.zero_le _, Nat.zero_le _⟩ rfl rfl hl.1 (Nat.le_of_ble_eq_true rfl) dX5_count_4 (fun r_1 H1 L1 P hf => ?_)
  refine r_if_ne C dX5_count_7 hf (fun hf => ?_) (fun hf => ?_)
  · refine r_iload_n C hl 1 rfl rfl dX5_count_20 ?_
    refine r_bipush C (v := 10) (by decide) dX5_count_21 ?_
    refine r_jn (fun k45 : Unit → Option ((Nat × Int32) × OM) => ∀ H1 L1 ls, Hp G o s H1 L1 → lv_has ls 2 [(0, .ref (rA G 0 0)), (1, .int v1)] → k45 () = some (r, o9) → W p l e (rmx rmX5_count r.1) s m args below meth c H1 L1 0 0 (Qxm G r.1 (some (.int r.2)) o9 below args s) (F0 m 45 ls [])) hf ?_ (fun k45 j45 hf => ?_)
    · intro  H1 L1 ls  P hl hf
      refine r_iload_n C hl 1 rfl rfl dX5_count_45 ?_
      refine r_bipush C (v := 6) (by decide) dX5_count_46 ?_
      refine r_jn (fun k74 : Unit → Option ((Nat × Int32) × OM) => ∀ H1 L1 ls, Hp G o s H1 L1 → lv_has ls 2 [(0, .ref (rA G 0 0)), (1, .int v1)] → k74 () = some (r, o9) → W p l e (rmx rmX5_count r.1) s m args below meth c H1 L1 0 0 (Qxm G r.1 (some (.int r.2)) o9 below args s) (F0 m 74 ls [])) hf ?_ (fun k74 j74 hf => ?_)
      · intro  H1 L1 ls  P hl hf
        refine r_iload_n C hl 1 rfl rfl dX5_count_74 ?_
        refine r_ite hf (fun hc0 hf => ?_) (fun hc0 hf => ?_)
        · refine lv_tableIn C.1 C.2.1 (off := 37) (tgt := 112) dX5_count_75.1 (by rw [hc0] <;> decide) (by rw [hc0] <;> decide) (by rw [hc0] <;> decide) rfl ?_
          refine r_aload_n C hl 0 rfl rfl dX5_count_112 ?_
          refine gf_0_0 C P rfl wd_208 dX5_count_113 ?_
          refine gf_1_0 C P rfl wd_134 dX5_count_116 ?_
          exact x_iret C P dX5_count_119 hf
        · refine r_ite hf (fun hc1 hf => ?_) (fun hc1 hf => ?_)
          · refine lv_tableIn C.1 C.2.1 (off := 45) (tgt := 120) dX5_count_75.1 (by rw [hc1] <;> decide) (by rw [hc1] <;> decide) (by rw [hc1] <;> decide) rfl ?_
            refine r_aload_n C hl 0 rfl rfl dX5_count_120 ?_
            refine gf_0_0 C P rfl wd_208 dX5_count_121 ?_
            refine gf_1_2 C P rfl wd_138 dX5_count_124 ?_
            exact x_iret C P dX5_count_127 hf
          · refine r_ite hf (fun hc2 hf => ?_) (fun hc2 hf => ?_)
            · refine lv_tableIn C.1 C.2.1 (off := 53) (tgt := 128) dX5_count_75.1 (by rw [hc2] <;> decide) (by rw [hc2] <;> decide) (by rw [hc2] <;> decide) rfl ?_
              refine r_aload_n C hl 0 rfl rfl dX5_count_128 ?_
              refine gf_0_0 C P rfl wd_208 dX5_count_129 ?_
              refine r_qVi C P cf_X5_250 (rm := rmX2_allPoints) 1 0 (fun _ _ => ⟨_, rfl⟩) rfl rfl rfl [] [] hf (fun _ h => ctX2_allPoints l G o 0 rfl h) ⟨rfl, rfl⟩ ⟨Nat.le_of_ble_eq_true rfl, Nat.le_of_ble_eq_true rfl⟩ ⟨Nat.zero_le _, Nat.zero_le _⟩ rfl rfl hl.1 (Nat.le_of_ble_eq_true rfl) dX5_count_132 (fun r_2 H1 L1 P hf => ?_)
              exact x_iret C P dX5_count_135 hf
            · refine r_ite hf (fun hc3 hf => ?_) (fun hc3 hf => ?_)
              · refine lv_tableIn C.1 C.2.1 (off := 61) (tgt := 136) dX5_count_75.1 (by rw [hc3] <;> decide) (by rw [hc3] <;> decide) (by rw [hc3] <;> decide) rfl ?_
                refine r_aload_n C hl 0 rfl rfl dX5_count_136 ?_
                refine gf_0_0 C P rfl wd_208 dX5_count_137 ?_
                refine r_qVi C P cf_X5_253 (rm := rmX2_validPapers) 1 0 (fun _ _ => ⟨_, rfl⟩) rfl rfl rfl [] [] hf (fun _ h => ctX2_validPapers l G o 0 rfl h) ⟨rfl, rfl⟩ ⟨Nat.le_of_ble_eq_true rfl, Nat.le_of_ble_eq_true rfl⟩ ⟨Nat.zero_le _, Nat.zero_le _⟩ rfl rfl hl.1 (Nat.le_of_ble_eq_true rfl) dX5_count_140 (fun r_3 H1 L1 P hf => ?_)
                exact x_iret C P dX5_count_143 hf
              · refine r_ite hf (fun hc4 hf => ?_) (fun hc4 hf => ?_)
                · refine lv_tableIn C.1 C.2.1 (off := 69) (tgt := 144) dX5_count_75.1 (by rw [hc4] <;> decide) (by rw [hc4] <;> decide) (by rw [hc4] <;> decide) rfl ?_
                  refine r_aload_n C hl 0 rfl rfl dX5_count_144 ?_
                  refine gf_0_0 C P rfl wd_208 dX5_count_145 ?_
                  refine gf_1_1 C P rfl wd_136 dX5_count_148 ?_
                  exact x_iret C P dX5_count_151 hf
                · refine r_ite hf (fun hc5 hf => ?_) (fun hc5 hf => ?_)
                  · refine lv_tableIn C.1 C.2.1 (off := 77) (tgt := 152) dX5_count_75.1 (by rw [hc5] <;> decide) (by rw [hc5] <;> decide) (by rw [hc5] <;> decide) rfl ?_
                    refine r_aload_n C hl 0 rfl rfl dX5_count_152 ?_
                    refine gf_0_0 C P rfl wd_208 dX5_count_153 ?_
                    refine r_qVi C P cf_X5_259 (rm := rmX2_allCrept) 1 0 (fun _ _ => ⟨_, rfl⟩) rfl rfl rfl [] [] hf (fun _ h => ctX2_allCrept l G o 0 rfl h) ⟨rfl, rfl⟩ ⟨Nat.le_of_ble_eq_true rfl, Nat.le_of_ble_eq_true rfl⟩ ⟨Nat.zero_le _, Nat.zero_le _⟩ rfl rfl hl.1 (Nat.le_of_ble_eq_true rfl) dX5_count_156 (fun r_4 H1 L1 P hf => ?_)
                    exact x_iret C P dX5_count_159 hf
                  · refine lv_tableOut C.1 C.2.1 (tgt := 160) dX5_count_75.1 (by have q0 := lv_neT hc0 (a := 0) rfl; have q1 := lv_neT hc1 (a := 1) rfl; have q2 := lv_neT hc2 (a := 2) rfl; have q3 := lv_neT hc3 (a := 3) rfl; have q4 := lv_neT hc4 (a := 4) rfl; have q5 := lv_neT hc5 (a := 5) rfl; omega) rfl ?_
                    refine r_aload_n C hl 0 rfl rfl dX5_count_160 ?_
                    refine gf_0_2 C P rfl wd_210 dX5_count_161 ?_
                    refine gf_14_0 C P rfl wd_176 dX5_count_164 ?_
                    exact x_iret C P dX5_count_167 hf
      refine r_icmp_lt C dX5_count_48 hf (fun hf => ?_) (fun hf => ?_)
      · exact j74  _ _ _ P (lv_sub hl [0, 1] rfl) hf
      · refine r_iload_n C hl 1 rfl rfl dX5_count_51 ?_
        refine r_bipush C (v := 9) (by decide) dX5_count_52 ?_
        refine r_icmp_gt C dX5_count_54 hf (fun hf => ?_) (fun hf => ?_)
        · exact j74  _ _ _ P (lv_sub hl [0, 1] rfl) hf
        · refine r_aload_n C hl 0 rfl rfl dX5_count_57 ?_
          refine gf_0_0 C P rfl wd_208 dX5_count_58 ?_
          refine gf_1_5 C P rfl wd_144 dX5_count_61 ?_
          refine r_iload_n C hl 1 rfl rfl dX5_count_64 ?_
          refine r_bipush C (v := 6) (by decide) dX5_count_65 ?_
          refine r_isub C dX5_count_67 ?_
          refine r_iald C P (k := 2) (i := 0) (n := 4) (fun _ _ => rfl) rfl dX5_count_68 hf (fun hf => ?_)
          refine r_sipush C (v := 10000) (by decide) dX5_count_69 ?_
          refine r_iadd2 C dX5_count_72 ?_
          exact x_iret C P dX5_count_73 hf
    refine r_icmp_lt C dX5_count_23 hf (fun hf => ?_) (fun hf => ?_)
    · exact j45  _ _ _ P (lv_sub hl [0, 1] rfl) hf
    · refine r_iload_n C hl 1 rfl rfl dX5_count_26 ?_
      refine r_bipush C (v := 16) (by decide) dX5_count_27 ?_
      refine r_icmp_gt C dX5_count_29 hf (fun hf => ?_) (fun hf => ?_)
      · exact j45  _ _ _ P (lv_sub hl [0, 1] rfl) hf
      · refine r_aload_n C hl 0 rfl rfl dX5_count_32 ?_
        refine gf_0_0 C P rfl wd_208 dX5_count_33 ?_
        refine gf_1_6 C P rfl wd_146 dX5_count_36 ?_
        refine r_iload_n C hl 1 rfl rfl dX5_count_39 ?_
        refine r_bipush C (v := 10) (by decide) dX5_count_40 ?_
        refine r_isub C dX5_count_42 ?_
        refine r_iald C P (k := 3) (i := 0) (n := 7) (fun _ _ => rfl) rfl dX5_count_43 hf (fun hf => ?_)
        exact x_iret C P dX5_count_44 hf
  · exact x_throw C E0 X hl9 P (E := "java/lang/IllegalArgumentException") (tx := "what is not 0 to 17") (ik := 37) (is := 248) (ic := 41) ⟨rfl, by decide, by decide, wd_322, wd_19, th_1a, th_1b, th_1c, by decide⟩ (rm := rmX5_count) ⟨Nat.le_of_ble_eq_true rfl, Nat.le_of_ble_eq_true rfl⟩ hl.1 eX5_count_10 eX5_count_13 eX5_count_14 eX5_count_16 eX5_count_19 hf
theorem ctX5_count (l : Launch) (G : Gd) (hl9 : l.stackTraces = false) (o : OM) (v1 : Int32)  {r : (Nat × Int32)} {o9 : OM} (hf : F_X5_count o v1 = some (r, o9)) : Cte l yX5_count cX5_count 2 (some .int) rmX5_count G [.ref (rA G 0 0), .int v1] o r.1 (some (.int r.2)) o9 := cte_of (by decide +kernel) (Nat.le_of_ble_eq_true rfl) (fun p e s m below meth c ls C E0 X P hl => wX5_count C E0 X hl9  P hl hf)
theorem cf_X5_262 : CallF false RX5 262 yX3_overlapWith cX3_overlapWith 5 (some .int) 2 := ⟨wd_616, (by rw [if_neg (by decide)]; exact ⟨wd_534, wd_535⟩), wd_12, wd_536, by decide, by decide +kernel⟩
theorem dX5_overlap_0 : Dc cX5_overlap 0 (.aload_n 0) 1 1 := ⟨by decide +kernel, rfl⟩
theorem dX5_overlap_1 : Dc cX5_overlap 1 (.iload_n 1) 1 2 := ⟨by decide +kernel, rfl⟩
theorem dX5_overlap_2 : Dc cX5_overlap 2 (.invokevirtual 65) 3 5 := ⟨by decide +kernel, rfl⟩
theorem dX5_overlap_5 : Dc cX5_overlap 5 (.aload_n 0) 1 6 := ⟨by decide +kernel, rfl⟩
theorem dX5_overlap_6 : Dc cX5_overlap 6 (.iload_n 2) 1 7 := ⟨by decide +kernel, rfl⟩
theorem dX5_overlap_7 : Dc cX5_overlap 7 (.invokevirtual 65) 3 10 := ⟨by decide +kernel, rfl⟩
theorem dX5_overlap_10 : Dc cX5_overlap 10 (.iload_n 3) 1 11 := ⟨by decide +kernel, rfl⟩
theorem dX5_overlap_11 : Dc cX5_overlap 11 (.invokestatic 88) 3 14 := ⟨by decide +kernel, rfl⟩
theorem dX5_overlap_14 : Dc cX5_overlap 14 (.aload_n 0) 1 15 := ⟨by decide +kernel, rfl⟩
theorem dX5_overlap_15 : Dc cX5_overlap 15 (.getfield 10) 3 18 := ⟨by decide +kernel, rfl⟩
theorem dX5_overlap_18 : Dc cX5_overlap 18 (.getfield 69) 3 21 := ⟨by decide +kernel, rfl⟩
theorem dX5_overlap_21 : Dc cX5_overlap 21 (.iload_n 1) 1 22 := ⟨by decide +kernel, rfl⟩
theorem dX5_overlap_22 : Dc cX5_overlap 22 (.aaload) 1 23 := ⟨by decide +kernel, rfl⟩
theorem dX5_overlap_23 : Dc cX5_overlap 23 (.aload_n 0) 1 24 := ⟨by decide +kernel, rfl⟩
theorem dX5_overlap_24 : Dc cX5_overlap 24 (.getfield 10) 3 27 := ⟨by decide +kernel, rfl⟩
theorem dX5_overlap_27 : Dc cX5_overlap 27 (.getfield 69) 3 30 := ⟨by decide +kernel, rfl⟩
theorem dX5_overlap_30 : Dc cX5_overlap 30 (.iload_n 2) 1 31 := ⟨by decide +kernel, rfl⟩
theorem dX5_overlap_31 : Dc cX5_overlap 31 (.aaload) 1 32 := ⟨by decide +kernel, rfl⟩
theorem dX5_overlap_32 : Dc cX5_overlap 32 (.iload_n 3) 1 33 := ⟨by decide +kernel, rfl⟩
theorem dX5_overlap_33 : Dc cX5_overlap 33 (.invokevirtual 262) 3 36 := ⟨by decide +kernel, rfl⟩
theorem dX5_overlap_36 : Dc cX5_overlap 36 (.ireturn) 1 37 := ⟨by decide +kernel, rfl⟩
def F_X5_overlap (o : OM) (v1 : Int32) (v2 : Int32) (v3 : Int32) : Option ((Nat × Int32) × OM) := bx (F_X5_needThermometer o v1) (0 : Int32) (fun _ o_2 => bx (F_X5_needThermometer o_2 v2) (0 : Int32) (fun _ o_4 => bx (F_X5_needDegree o_4 v3) (0 : Int32) (fun _ o_6 => grd (inB v1 6) (bd (tid 0 (rd o_6 4 0 v1.toNatClampNeg)) (fun t_7 : Nat => grd (inB v2 6) (bd (tid 0 (rd o_6 4 0 v2.toNatClampNeg)) (fun t_8 : Nat => bq (F_X3_overlapWith o_6 t_7 t_8 v3) (fun r_9 => some ((0, r_9), o_6)))))))))
abbrev rmX5_overlap : Room := { frames := 7, cells := 0, slots := 0, locals := 103 }
set_option maxHeartbeats 4000000 in
set_option maxRecDepth 100000 in
theorem wX5_overlap {G : Gd} {p : Program} {l : Launch} {e : Env} {s : State} {m : MethodId} {args : Array Value} {below : List Frame} {meth : Method} {c : Code} {o : OM} {H : Heap} {L0 : List Loc} {ls : Array Slot} {r : (Nat × Int32)} {o9 : OM} {v1 : Int32} {v2 : Int32} {v3 : Int32} (C : Cx G RX5 cX5_overlap 4 (some .int) p s m args meth c) (E0 : Cex c) (X : XF G s) (hl9 : l.stackTraces = false)  (P : Hp G o s H L0) (hl : lv_has ls 4 [(0, .ref (rA G 0 0)), (1, .int v1), (2, .int v2), (3, .int v3)]) (hf : F_X5_overlap o v1 v2 v3 = some (r, o9)) : W p l e (rmx rmX5_overlap r.1) s m args below meth c H L0 0 0 (Qxm G r.1 (some (.int r.2)) o9 below args s) (F0 m 0 ls []) := by
  unfold F_X5_overlap at hf
  refine r_aload_n C hl 0 rfl rfl dX5_overlap_0 ?_
  refine r_iload_n C hl 1 rfl rfl dX5_overlap_1 ?_
  refine x_cVv C E0 X P cf_X5_65 (rm := rmX5_needThermometer) (rm9 := rmX5_overlap) 0 0 (fun _ _ => ⟨_, rfl⟩) rfl rfl rfl [.int v1] [] hf (fun _ _ h => ctX5_needThermometer l G hl9 o v1 h) ⟨Nat.le_of_ble_eq_true rfl, Nat.le_of_ble_eq_true rfl⟩ rfl rfl hl.1 (Nat.le_of_ble_eq_true rfl) dX5_overlap_2 (fun _ o_2 H1 L1 P hf => ?_)
  refine r_aload_n C hl 0 rfl rfl dX5_overlap_5 ?_
  refine r_iload_n C hl 2 rfl rfl dX5_overlap_6 ?_
  refine x_cVv C E0 X P cf_X5_65 (rm := rmX5_needThermometer) (rm9 := rmX5_overlap) 0 0 (fun _ _ => ⟨_, rfl⟩) rfl rfl rfl [.int v2] [] hf (fun _ _ h => ctX5_needThermometer l G hl9 o_2 v2 h) ⟨Nat.le_of_ble_eq_true rfl, Nat.le_of_ble_eq_true rfl⟩ rfl rfl hl.1 (Nat.le_of_ble_eq_true rfl) dX5_overlap_7 (fun _ o_4 H1 L1 P hf => ?_)
  refine r_iload_n C hl 3 rfl rfl dX5_overlap_10 ?_
  refine x_cSv C E0 X P cf_X5_88 (rm := rmX5_needDegree) (rm9 := rmX5_overlap) [.int v3] [] hf (fun _ _ h => ctX5_needDegree l G hl9 o_4 v3 h) ⟨Nat.le_of_ble_eq_true rfl, Nat.le_of_ble_eq_true rfl⟩ rfl rfl hl.1 (Nat.le_of_ble_eq_true rfl) dX5_overlap_11 (fun _ o_6 H1 L1 P hf => ?_)
  refine r_aload_n C hl 0 rfl rfl dX5_overlap_14 ?_
  refine gf_0_0 C P rfl wd_208 dX5_overlap_15 ?_
  refine gf_1_7 C P rfl wd_148 dX5_overlap_18 ?_
  refine r_iload_n C hl 1 rfl rfl dX5_overlap_21 ?_
  refine r_aldT C P rfl dX5_overlap_22 hf (fun t_7 ht_7 hf => ?_)
  refine r_aload_n C hl 0 rfl rfl dX5_overlap_23 ?_
  refine gf_0_0 C P rfl wd_208 dX5_overlap_24 ?_
  refine gf_1_7 C P rfl wd_148 dX5_overlap_27 ?_
  refine r_iload_n C hl 2 rfl rfl dX5_overlap_30 ?_
  refine r_aldT C P rfl dX5_overlap_31 hf (fun t_8 ht_8 hf => ?_)
  refine r_iload_n C hl 3 rfl rfl dX5_overlap_32 ?_
  refine r_qVi C P cf_X5_262 (rm := rmX3_overlapWith) 5 t_7 (fun _ _ => ⟨_, rfl⟩) rfl rfl ht_7 [.ref (rA G 5 t_8), .int v3] [] hf (fun _ h => ctX3_overlapWith l G o_6 t_7 t_8 v3 ht_7 ht_8 h) ⟨rfl, rfl⟩ ⟨Nat.le_of_ble_eq_true rfl, Nat.le_of_ble_eq_true rfl⟩ ⟨Nat.zero_le _, Nat.zero_le _⟩ rfl rfl hl.1 (Nat.le_of_ble_eq_true rfl) dX5_overlap_33 (fun r_9 H1 L1 P hf => ?_)
  exact x_iret C P dX5_overlap_36 hf
theorem ctX5_overlap (l : Launch) (G : Gd) (hl9 : l.stackTraces = false) (o : OM) (v1 : Int32) (v2 : Int32) (v3 : Int32)  {r : (Nat × Int32)} {o9 : OM} (hf : F_X5_overlap o v1 v2 v3 = some (r, o9)) : Cte l yX5_overlap cX5_overlap 4 (some .int) rmX5_overlap G [.ref (rA G 0 0), .int v1, .int v2, .int v3] o r.1 (some (.int r.2)) o9 := cte_of (by decide +kernel) (Nat.le_of_ble_eq_true rfl) (fun p e s m below meth c ls C E0 X P hl => wX5_overlap C E0 X hl9  P hl hf)
theorem dX5_worstDegree_0 : Dc cX5_worstDegree 0 (.aload_n 0) 1 1 := ⟨by decide +kernel, rfl⟩
theorem dX5_worstDegree_1 : Dc cX5_worstDegree 1 (.iload_n 1) 1 2 := ⟨by decide +kernel, rfl⟩
theorem dX5_worstDegree_2 : Dc cX5_worstDegree 2 (.invokevirtual 65) 3 5 := ⟨by decide +kernel, rfl⟩
theorem dX5_worstDegree_5 : Dc cX5_worstDegree 5 (.aload_n 0) 1 6 := ⟨by decide +kernel, rfl⟩
theorem dX5_worstDegree_6 : Dc cX5_worstDegree 6 (.iload_n 2) 1 7 := ⟨by decide +kernel, rfl⟩
theorem dX5_worstDegree_7 : Dc cX5_worstDegree 7 (.invokevirtual 65) 3 10 := ⟨by decide +kernel, rfl⟩
theorem dX5_worstDegree_10 : Dc cX5_worstDegree 10 (.iconst (-1)) 1 11 := ⟨by decide +kernel, rfl⟩
theorem dX5_worstDegree_11 : Dc cX5_worstDegree 11 (.istore_n 3) 1 12 := ⟨by decide +kernel, rfl⟩
theorem dX5_worstDegree_12 : Dc cX5_worstDegree 12 (.iconst (-1)) 1 13 := ⟨by decide +kernel, rfl⟩
theorem dX5_worstDegree_13 : Dc cX5_worstDegree 13 (.istore 4) 2 15 := ⟨by decide +kernel, rfl⟩
theorem dX5_worstDegree_15 : Dc cX5_worstDegree 15 (.sipush (-400)) 3 18 := ⟨by decide +kernel, rfl⟩
theorem dX5_worstDegree_18 : Dc cX5_worstDegree 18 (.istore 5) 2 20 := ⟨by decide +kernel, rfl⟩
theorem dX5_worstDegree_20 : Dc cX5_worstDegree 20 (.iload 5) 2 22 := ⟨by decide +kernel, rfl⟩
theorem dX5_worstDegree_22 : Dc cX5_worstDegree 22 (.sipush 1500) 3 25 := ⟨by decide +kernel, rfl⟩
theorem dX5_worstDegree_25 : Dj cX5_worstDegree 25 (.if_icmp .gt 52) 3 28 (52) 77 := ⟨by decide +kernel, rfl, by decide⟩
theorem dX5_worstDegree_28 : Dc cX5_worstDegree 28 (.aload_n 0) 1 29 := ⟨by decide +kernel, rfl⟩
theorem dX5_worstDegree_29 : Dc cX5_worstDegree 29 (.getfield 10) 3 32 := ⟨by decide +kernel, rfl⟩
theorem dX5_worstDegree_32 : Dc cX5_worstDegree 32 (.getfield 69) 3 35 := ⟨by decide +kernel, rfl⟩
theorem dX5_worstDegree_35 : Dc cX5_worstDegree 35 (.iload_n 1) 1 36 := ⟨by decide +kernel, rfl⟩
theorem dX5_worstDegree_36 : Dc cX5_worstDegree 36 (.aaload) 1 37 := ⟨by decide +kernel, rfl⟩
theorem dX5_worstDegree_37 : Dc cX5_worstDegree 37 (.aload_n 0) 1 38 := ⟨by decide +kernel, rfl⟩
theorem dX5_worstDegree_38 : Dc cX5_worstDegree 38 (.getfield 10) 3 41 := ⟨by decide +kernel, rfl⟩
theorem dX5_worstDegree_41 : Dc cX5_worstDegree 41 (.getfield 69) 3 44 := ⟨by decide +kernel, rfl⟩
theorem dX5_worstDegree_44 : Dc cX5_worstDegree 44 (.iload_n 2) 1 45 := ⟨by decide +kernel, rfl⟩
theorem dX5_worstDegree_45 : Dc cX5_worstDegree 45 (.aaload) 1 46 := ⟨by decide +kernel, rfl⟩
theorem dX5_worstDegree_46 : Dc cX5_worstDegree 46 (.iload 5) 2 48 := ⟨by decide +kernel, rfl⟩
theorem dX5_worstDegree_48 : Dc cX5_worstDegree 48 (.invokevirtual 262) 3 51 := ⟨by decide +kernel, rfl⟩
theorem dX5_worstDegree_51 : Dc cX5_worstDegree 51 (.istore 6) 2 53 := ⟨by decide +kernel, rfl⟩
theorem dX5_worstDegree_53 : Dc cX5_worstDegree 53 (.iload 6) 2 55 := ⟨by decide +kernel, rfl⟩
theorem dX5_worstDegree_55 : Dc cX5_worstDegree 55 (.iload 4) 2 57 := ⟨by decide +kernel, rfl⟩
theorem dX5_worstDegree_57 : Dj cX5_worstDegree 57 (.if_icmp .le 14) 3 60 (14) 71 := ⟨by decide +kernel, rfl, by decide⟩
theorem dX5_worstDegree_60 : Dc cX5_worstDegree 60 (.iload 6) 2 62 := ⟨by decide +kernel, rfl⟩
theorem dX5_worstDegree_62 : Dc cX5_worstDegree 62 (.istore 4) 2 64 := ⟨by decide +kernel, rfl⟩
theorem dX5_worstDegree_64 : Dc cX5_worstDegree 64 (.iload 5) 2 66 := ⟨by decide +kernel, rfl⟩
theorem dX5_worstDegree_66 : Dc cX5_worstDegree 66 (.sipush 10000) 3 69 := ⟨by decide +kernel, rfl⟩
theorem dX5_worstDegree_69 : Dc cX5_worstDegree 69 (.iadd) 1 70 := ⟨by decide +kernel, rfl⟩
theorem dX5_worstDegree_70 : Dc cX5_worstDegree 70 (.istore_n 3) 1 71 := ⟨by decide +kernel, rfl⟩
theorem dX5_worstDegree_71 : Dc cX5_worstDegree 71 (.iinc 5 100) 3 74 := ⟨by decide +kernel, rfl⟩
theorem dX5_worstDegree_74 : Dj cX5_worstDegree 74 (.goto (-54)) 3 77 (-54) 20 := ⟨by decide +kernel, rfl, by decide⟩
theorem dX5_worstDegree_77 : Dc cX5_worstDegree 77 (.iload_n 3) 1 78 := ⟨by decide +kernel, rfl⟩
theorem dX5_worstDegree_78 : Dc cX5_worstDegree 78 (.ireturn) 1 79 := ⟨by decide +kernel, rfl⟩
def LX5_worstDegree_20 (k77 : Int32 → Option ((Nat × Int32) × OM)) (v1 : Int32) (o_4 : OM) (v2 : Int32) : Nat → Int32 → Int32 → Int32 → Option ((Nat × Int32) × OM)
  | 0 => fun _ _ _ => none
  | n + 1 => fun v3_6 v4_7 v5_8 => if ((1500 : Int32)) < v5_8 then (k77 v3_6) else (grd (inB v1 6) (bd (tid 0 (rd o_4 4 0 v1.toNatClampNeg)) (fun t_9 : Nat => grd (inB v2 6) (bd (tid 0 (rd o_4 4 0 v2.toNatClampNeg)) (fun t_10 : Nat => bq (F_X3_overlapWith o_4 t_9 t_10 v5_8) (fun r_11 => bd (fun (v3_12 : Int32) (v4_13 : Int32) => bd (v5_8 + (100 : Int32)) (fun v5_14 : Int32 => (LX5_worstDegree_20 k77 v1 o_4 v2 n) v3_12 v4_13 v5_14)) (fun k71 => if r_11 ≤ v4_7 then (k71 v3_6 v4_7) else (bd (v5_8 + ((10000 : Int32))) (fun v3_15 : Int32 => k71 v3_15 r_11)))))))))
def F_X5_worstDegree (o : OM) (v1 : Int32) (v2 : Int32) : Option ((Nat × Int32) × OM) := bx (F_X5_needThermometer o v1) (0 : Int32) (fun _ o_2 => bx (F_X5_needThermometer o_2 v2) (0 : Int32) (fun _ o_4 => bd (fun (v3_5 : Int32) => some ((0, v3_5), o_4)) (fun k77 => LX5_worstDegree_20 k77 v1 o_4 v2 FU ((-1 : Int32)) ((-1 : Int32)) ((-400 : Int32)))))
abbrev rmX5_worstDegree : Room := { frames := 7, cells := 0, slots := 0, locals := 103 }
set_option maxHeartbeats 4000000 in
set_option maxRecDepth 100000 in
theorem lX5_worstDegree_20 {G : Gd} {p : Program} {l : Launch} {e : Env} {s : State} {m : MethodId} {args : Array Value} {below : List Frame} {meth : Method} {c : Code} {r : (Nat × Int32)} {o9 : OM} {v1 : Int32} {o_4 : OM} {v2 : Int32} (C : Cx G RX5 cX5_worstDegree 7 (some .int) p s m args meth c) (E0 : Cex c) (X : XF G s) (hl9 : l.stackTraces = false)  {k77 : Int32 → Option ((Nat × Int32) × OM)} (j77 : ∀ (v3_5 : Int32) H1 L1 ls, Hp G o_4 s H1 L1 → lv_has ls 7 [(3, .int v3_5)] → k77 v3_5 = some (r, o9) → W p l e (rmx rmX5_worstDegree r.1) s m args below meth c H1 L1 0 0 (Qxm G r.1 (some (.int r.2)) o9 below args s) (F0 m 77 ls [])) : ∀ (n : Nat) (v3_6 : Int32) (v4_7 : Int32) (v5_8 : Int32) H1 L1 ls, Hp G o_4 s H1 L1 → lv_has ls 7 [(0, .ref (rA G 0 0)), (1, .int v1), (2, .int v2), (3, .int v3_6), (4, .int v4_7), (5, .int v5_8)] → LX5_worstDegree_20 k77 v1 o_4 v2 n v3_6 v4_7 v5_8 = some (r, o9) → W p l e (rmx rmX5_worstDegree r.1) s m args below meth c H1 L1 0 0 (Qxm G r.1 (some (.int r.2)) o9 below args s) (F0 m 20 ls []) := by
  intro n
  induction n with
  | zero =>
    intro v3_6 v4_7 v5_8 H1 L1 ls P hl hf
    exact nomatch hf
  | succ n ih =>
    intro v3_6 v4_7 v5_8 H1 L1 ls P hl hf
    rw [LX5_worstDegree_20.eq_2] at hf
    refine r_iload C hl 5 rfl dX5_worstDegree_20 ?_
    refine r_sipush C (v := 1500) (by decide) dX5_worstDegree_22 ?_
    refine r_icmp_gt C dX5_worstDegree_25 hf (fun hf => ?_) (fun hf => ?_)
    · exact j77 v3_6 _ _ _ P (lv_sub hl [3] rfl) hf
    · refine r_aload_n C hl 0 rfl rfl dX5_worstDegree_28 ?_
      refine gf_0_0 C P rfl wd_208 dX5_worstDegree_29 ?_
      refine gf_1_7 C P rfl wd_148 dX5_worstDegree_32 ?_
      refine r_iload_n C hl 1 rfl rfl dX5_worstDegree_35 ?_
      refine r_aldT C P rfl dX5_worstDegree_36 hf (fun t_9 ht_9 hf => ?_)
      refine r_aload_n C hl 0 rfl rfl dX5_worstDegree_37 ?_
      refine gf_0_0 C P rfl wd_208 dX5_worstDegree_38 ?_
      refine gf_1_7 C P rfl wd_148 dX5_worstDegree_41 ?_
      refine r_iload_n C hl 2 rfl rfl dX5_worstDegree_44 ?_
      refine r_aldT C P rfl dX5_worstDegree_45 hf (fun t_10 ht_10 hf => ?_)
      refine r_iload C hl 5 rfl dX5_worstDegree_46 ?_
      refine r_qVi C P cf_X5_262 (rm := rmX3_overlapWith) 5 t_9 (fun _ _ => ⟨_, rfl⟩) rfl rfl ht_9 [.ref (rA G 5 t_10), .int v5_8] [] hf (fun _ h => ctX3_overlapWith l G o_4 t_9 t_10 v5_8 ht_9 ht_10 h) ⟨rfl, rfl⟩ ⟨Nat.le_of_ble_eq_true rfl, Nat.le_of_ble_eq_true rfl⟩ ⟨Nat.zero_le _, Nat.zero_le _⟩ rfl rfl hl.1 (Nat.le_of_ble_eq_true rfl) dX5_worstDegree_48 (fun r_11 H1 L1 P hf => ?_)
      refine r_istore C [(6, .int r_11), (0, .ref (rA G 0 0)), (1, .int v1), (2, .int v2), (3, .int v3_6), (4, .int v4_7), (5, .int v5_8)] hl (by decide) rfl dX5_worstDegree_51 (fun ls hl => ?_)
      refine r_iload C hl 0 rfl dX5_worstDegree_53 ?_
      refine r_iload C hl 5 rfl dX5_worstDegree_55 ?_
      refine r_jn (fun k71 : Int32 → Int32 → Option ((Nat × Int32) × OM) => ∀ (v3_12 : Int32) (v4_13 : Int32) H1 L1 ls, Hp G o_4 s H1 L1 → lv_has ls 7 [(0, .ref (rA G 0 0)), (1, .int v1), (2, .int v2), (3, .int v3_12), (4, .int v4_13), (5, .int v5_8)] → k71 v3_12 v4_13 = some (r, o9) → W p l e (rmx rmX5_worstDegree r.1) s m args below meth c H1 L1 0 0 (Qxm G r.1 (some (.int r.2)) o9 below args s) (F0 m 71 ls [])) hf ?_ (fun k71 j71 hf => ?_)
      · intro v3_12 v4_13 H1 L1 ls  P hl hf
        refine r_iinc C (fun v5_14 => [(5, .int v5_14), (0, .ref (rA G 0 0)), (1, .int v1), (2, .int v2), (3, .int v3_12), (4, .int v4_13)]) (w := 100) 5 hl rfl (by decide) (by decide) (fun _ => rfl) dX5_worstDegree_71 hf (fun v5_14 ls hl hf => ?_)
        refine r_goto C dX5_worstDegree_74 ?_
        exact ih v3_12 v4_13 v5_14 _ _ _ P (lv_sub hl [1, 2, 3, 4, 5, 0] rfl) hf
      refine r_icmp_le C dX5_worstDegree_57 hf (fun hf => ?_) (fun hf => ?_)
      · exact j71 v3_6 v4_7 _ _ _ P (lv_sub hl [1, 2, 3, 4, 5, 6] rfl) hf
      · refine r_iload C hl 0 rfl dX5_worstDegree_60 ?_
        refine r_istore C [(4, .int r_11), (6, .int r_11), (0, .ref (rA G 0 0)), (1, .int v1), (2, .int v2), (3, .int v3_6), (5, .int v5_8)] hl (by decide) rfl dX5_worstDegree_62 (fun ls hl => ?_)
        refine r_iload C hl 6 rfl dX5_worstDegree_64 ?_
        refine r_sipush C (v := 10000) (by decide) dX5_worstDegree_66 ?_
        refine r_iadd2 C dX5_worstDegree_69 ?_
        refine r_bdi hf (fun v3_15 hf => ?_)
        refine r_istore_n C [(3, .int v3_15), (4, .int r_11), (6, .int r_11), (0, .ref (rA G 0 0)), (1, .int v1), (2, .int v2), (5, .int v5_8)] hl (by decide) rfl rfl dX5_worstDegree_70 (fun ls hl => ?_)
        exact j71 v3_15 r_11 _ _ _ P (lv_sub hl [3, 4, 5, 0, 1, 6] rfl) hf
set_option maxHeartbeats 4000000 in
set_option maxRecDepth 100000 in
theorem wX5_worstDegree {G : Gd} {p : Program} {l : Launch} {e : Env} {s : State} {m : MethodId} {args : Array Value} {below : List Frame} {meth : Method} {c : Code} {o : OM} {H : Heap} {L0 : List Loc} {ls : Array Slot} {r : (Nat × Int32)} {o9 : OM} {v1 : Int32} {v2 : Int32} (C : Cx G RX5 cX5_worstDegree 7 (some .int) p s m args meth c) (E0 : Cex c) (X : XF G s) (hl9 : l.stackTraces = false)  (P : Hp G o s H L0) (hl : lv_has ls 7 [(0, .ref (rA G 0 0)), (1, .int v1), (2, .int v2)]) (hf : F_X5_worstDegree o v1 v2 = some (r, o9)) : W p l e (rmx rmX5_worstDegree r.1) s m args below meth c H L0 0 0 (Qxm G r.1 (some (.int r.2)) o9 below args s) (F0 m 0 ls []) := by
  unfold F_X5_worstDegree at hf
  refine r_aload_n C hl 0 rfl rfl dX5_worstDegree_0 ?_
  refine r_iload_n C hl 1 rfl rfl dX5_worstDegree_1 ?_
  refine x_cVv C E0 X P cf_X5_65 (rm := rmX5_needThermometer) (rm9 := rmX5_worstDegree) 0 0 (fun _ _ => ⟨_, rfl⟩) rfl rfl rfl [.int v1] [] hf (fun _ _ h => ctX5_needThermometer l G hl9 o v1 h) ⟨Nat.le_of_ble_eq_true rfl, Nat.le_of_ble_eq_true rfl⟩ rfl rfl hl.1 (Nat.le_of_ble_eq_true rfl) dX5_worstDegree_2 (fun _ o_2 H1 L1 P hf => ?_)
  refine r_aload_n C hl 0 rfl rfl dX5_worstDegree_5 ?_
  refine r_iload_n C hl 2 rfl rfl dX5_worstDegree_6 ?_
  refine x_cVv C E0 X P cf_X5_65 (rm := rmX5_needThermometer) (rm9 := rmX5_worstDegree) 0 0 (fun _ _ => ⟨_, rfl⟩) rfl rfl rfl [.int v2] [] hf (fun _ _ h => ctX5_needThermometer l G hl9 o_2 v2 h) ⟨Nat.le_of_ble_eq_true rfl, Nat.le_of_ble_eq_true rfl⟩ rfl rfl hl.1 (Nat.le_of_ble_eq_true rfl) dX5_worstDegree_7 (fun _ o_4 H1 L1 P hf => ?_)
  refine r_iconst C (v := -1) (by decide) dX5_worstDegree_10 ?_
  refine r_istore_n C [(3, .int ((-1 : Int32))), (0, .ref (rA G 0 0)), (1, .int v1), (2, .int v2)] hl (by decide) rfl rfl dX5_worstDegree_11 (fun ls hl => ?_)
  refine r_iconst C (v := -1) (by decide) dX5_worstDegree_12 ?_
  refine r_istore C [(4, .int ((-1 : Int32))), (3, .int ((-1 : Int32))), (0, .ref (rA G 0 0)), (1, .int v1), (2, .int v2)] hl (by decide) rfl dX5_worstDegree_13 (fun ls hl => ?_)
  refine r_sipush C (v := -400) (by decide) dX5_worstDegree_15 ?_
  refine r_istore C [(5, .int ((-400 : Int32))), (4, .int ((-1 : Int32))), (3, .int ((-1 : Int32))), (0, .ref (rA G 0 0)), (1, .int v1), (2, .int v2)] hl (by decide) rfl dX5_worstDegree_18 (fun ls hl => ?_)
  refine r_jn (fun k77 : Int32 → Option ((Nat × Int32) × OM) => ∀ (v3_5 : Int32) H1 L1 ls, Hp G o_4 s H1 L1 → lv_has ls 7 [(3, .int v3_5)] → k77 v3_5 = some (r, o9) → W p l e (rmx rmX5_worstDegree r.1) s m args below meth c H1 L1 0 0 (Qxm G r.1 (some (.int r.2)) o9 below args s) (F0 m 77 ls [])) hf ?_ (fun k77 j77 hf => ?_)
  · intro v3_5 H1 L1 ls  P hl hf
    refine r_iload_n C hl 0 rfl rfl dX5_worstDegree_77 ?_
    exact x_iret C P dX5_worstDegree_78 hf
  exact lX5_worstDegree_20 C E0 X hl9  j77 FU ((-1 : Int32)) ((-1 : Int32)) ((-400 : Int32)) _ _ _ P (lv_sub hl [3, 4, 5, 2, 1, 0] rfl) hf
theorem ctX5_worstDegree (l : Launch) (G : Gd) (hl9 : l.stackTraces = false) (o : OM) (v1 : Int32) (v2 : Int32)  {r : (Nat × Int32)} {o9 : OM} (hf : F_X5_worstDegree o v1 v2 = some (r, o9)) : Cte l yX5_worstDegree cX5_worstDegree 7 (some .int) rmX5_worstDegree G [.ref (rA G 0 0), .int v1, .int v2] o r.1 (some (.int r.2)) o9 := cte_of (by decide +kernel) (Nat.le_of_ble_eq_true rfl) (fun p e s m below meth c ls C E0 X P hl => wX5_worstDegree C E0 X hl9  P hl hf)
theorem cf_X5_266 : CallF false RX5 266 yX2_yearsUntilVoid cX2_yearsUntilVoid 4 (some .int) 1 := ⟨wd_633, (by rw [if_neg (by decide)]; exact ⟨wd_634, wd_635⟩), wd_11, wd_636, by decide, by decide +kernel⟩
theorem dX5_voidIn_0 : Dc cX5_voidIn 0 (.aload_n 0) 1 1 := ⟨by decide +kernel, rfl⟩
theorem dX5_voidIn_1 : Dc cX5_voidIn 1 (.iload_n 1) 1 2 := ⟨by decide +kernel, rfl⟩
theorem dX5_voidIn_2 : Dc cX5_voidIn 2 (.invokevirtual 65) 3 5 := ⟨by decide +kernel, rfl⟩
theorem dX5_voidIn_5 : Dc cX5_voidIn 5 (.aload_n 0) 1 6 := ⟨by decide +kernel, rfl⟩
theorem dX5_voidIn_6 : Dc cX5_voidIn 6 (.getfield 10) 3 9 := ⟨by decide +kernel, rfl⟩
theorem dX5_voidIn_9 : Dc cX5_voidIn 9 (.aload_n 0) 1 10 := ⟨by decide +kernel, rfl⟩
theorem dX5_voidIn_10 : Dc cX5_voidIn 10 (.getfield 10) 3 13 := ⟨by decide +kernel, rfl⟩
theorem dX5_voidIn_13 : Dc cX5_voidIn 13 (.getfield 69) 3 16 := ⟨by decide +kernel, rfl⟩
theorem dX5_voidIn_16 : Dc cX5_voidIn 16 (.iload_n 1) 1 17 := ⟨by decide +kernel, rfl⟩
theorem dX5_voidIn_17 : Dc cX5_voidIn 17 (.aaload) 1 18 := ⟨by decide +kernel, rfl⟩
theorem dX5_voidIn_18 : Dc cX5_voidIn 18 (.invokevirtual 266) 3 21 := ⟨by decide +kernel, rfl⟩
theorem dX5_voidIn_21 : Dc cX5_voidIn 21 (.ireturn) 1 22 := ⟨by decide +kernel, rfl⟩
def F_X5_voidIn (o : OM) (v1 : Int32) : Option ((Nat × Int32) × OM) := bx (F_X5_needThermometer o v1) (0 : Int32) (fun _ o_2 => grd (inB v1 6) (bd (tid 0 (rd o_2 4 0 v1.toNatClampNeg)) (fun t_3 : Nat => bq (F_X2_yearsUntilVoid o_2 0 t_3) (fun r_4 => some ((0, r_4), o_2)))))
abbrev rmX5_voidIn : Room := { frames := 7, cells := 0, slots := 0, locals := 103 }
set_option maxHeartbeats 4000000 in
set_option maxRecDepth 100000 in
theorem wX5_voidIn {G : Gd} {p : Program} {l : Launch} {e : Env} {s : State} {m : MethodId} {args : Array Value} {below : List Frame} {meth : Method} {c : Code} {o : OM} {H : Heap} {L0 : List Loc} {ls : Array Slot} {r : (Nat × Int32)} {o9 : OM} {v1 : Int32} (C : Cx G RX5 cX5_voidIn 2 (some .int) p s m args meth c) (E0 : Cex c) (X : XF G s) (hl9 : l.stackTraces = false)  (P : Hp G o s H L0) (hl : lv_has ls 2 [(0, .ref (rA G 0 0)), (1, .int v1)]) (hf : F_X5_voidIn o v1 = some (r, o9)) : W p l e (rmx rmX5_voidIn r.1) s m args below meth c H L0 0 0 (Qxm G r.1 (some (.int r.2)) o9 below args s) (F0 m 0 ls []) := by
  unfold F_X5_voidIn at hf
  refine r_aload_n C hl 0 rfl rfl dX5_voidIn_0 ?_
  refine r_iload_n C hl 1 rfl rfl dX5_voidIn_1 ?_
  refine x_cVv C E0 X P cf_X5_65 (rm := rmX5_needThermometer) (rm9 := rmX5_voidIn) 0 0 (fun _ _ => ⟨_, rfl⟩) rfl rfl rfl [.int v1] [] hf (fun _ _ h => ctX5_needThermometer l G hl9 o v1 h) ⟨Nat.le_of_ble_eq_true rfl, Nat.le_of_ble_eq_true rfl⟩ rfl rfl hl.1 (Nat.le_of_ble_eq_true rfl) dX5_voidIn_2 (fun _ o_2 H1 L1 P hf => ?_)
  refine r_aload_n C hl 0 rfl rfl dX5_voidIn_5 ?_
  refine gf_0_0 C P rfl wd_208 dX5_voidIn_6 ?_
  refine r_aload_n C hl 0 rfl rfl dX5_voidIn_9 ?_
  refine gf_0_0 C P rfl wd_208 dX5_voidIn_10 ?_
  refine gf_1_7 C P rfl wd_148 dX5_voidIn_13 ?_
  refine r_iload_n C hl 1 rfl rfl dX5_voidIn_16 ?_
  refine r_aldT C P rfl dX5_voidIn_17 hf (fun t_3 ht_3 hf => ?_)
  refine r_qVi C P cf_X5_266 (rm := rmX2_yearsUntilVoid) 1 0 (fun _ _ => ⟨_, rfl⟩) rfl rfl rfl [.ref (rA G 5 t_3)] [] hf (fun _ h => ctX2_yearsUntilVoid l G o_2 0 t_3 rfl ht_3 h) ⟨rfl, rfl⟩ ⟨Nat.le_of_ble_eq_true rfl, Nat.le_of_ble_eq_true rfl⟩ ⟨Nat.zero_le _, Nat.zero_le _⟩ rfl rfl hl.1 (Nat.le_of_ble_eq_true rfl) dX5_voidIn_18 (fun r_4 H1 L1 P hf => ?_)
  exact x_iret C P dX5_voidIn_21 hf
theorem ctX5_voidIn (l : Launch) (G : Gd) (hl9 : l.stackTraces = false) (o : OM) (v1 : Int32)  {r : (Nat × Int32)} {o9 : OM} (hf : F_X5_voidIn o v1 = some (r, o9)) : Cte l yX5_voidIn cX5_voidIn 2 (some .int) rmX5_voidIn G [.ref (rA G 0 0), .int v1] o r.1 (some (.int r.2)) o9 := cte_of (by decide +kernel) (Nat.le_of_ble_eq_true rfl) (fun p e s m below meth c ls C E0 X P hl => wX5_voidIn C E0 X hl9  P hl hf)
