theorem dX6_thrown_0 : Dc cX6_thrown 0 (.aload_n 0) 1 1 := ⟨by decide +kernel, rfl⟩
theorem dX6_thrown_1 : Dc cX6_thrown 1 (.getfield 22) 3 4 := ⟨by decide +kernel, rfl⟩
theorem dX6_thrown_4 : Dc cX6_thrown 4 (.ireturn) 1 5 := ⟨by decide +kernel, rfl⟩
def F_X6_thrown (o : OM) : Option Int32 := some (rd o 19 0 0)
abbrev rmX6_thrown : Room := { frames := 0, cells := 0, slots := 0, locals := 0 }
set_option maxHeartbeats 4000000 in
set_option maxRecDepth 100000 in
theorem wX6_thrown {G : Gd} {p : Program} {l : Launch} {e : Env} {s : State} {m : MethodId} {args : Array Value} {below : List Frame} {meth : Method} {c : Code} {o : OM} {H : Heap} {L0 : List Loc} {ls : Array Slot} {r : Int32}  (C : Cx G RX6 cX6_thrown 1 (some .int) p s m args meth c)  (P : Hp G o s H L0) (hl : lv_has ls 1 [(0, .ref (rA G 19 0))]) (hf : F_X6_thrown o  = some r) : W p l e rmX6_thrown s m args below meth c H L0 0 0 (Qm G (some (.int r)) o rmX6_thrown below args s) (F0 m 0 ls []) := by
  unfold F_X6_thrown at hf
  refine r_aload_n C hl 0 rfl rfl dX6_thrown_0 ?_
  refine gf_19_0 C P rfl wd_879 dX6_thrown_1 ?_
  exact q_iret C P (rm := rmX6_thrown) ⟨rfl, rfl⟩ dX6_thrown_4 hf
theorem ctX6_thrown (l : Launch) (G : Gd) (o : OM)   {r : Int32} (hf : F_X6_thrown o  = some r) : Ct l yX6_thrown cX6_thrown 1 (some .int) rmX6_thrown G [.ref (rA G 19 0)] o (some (.int r)) o := ct_of (by decide +kernel) (Nat.le_of_ble_eq_true rfl) (fun p e s m below meth c ls C P hl => wX6_thrown C  P hl hf)
theorem dX6_in_0 : Dc cX6_in 0 (.iload_n 0) 1 1 := ⟨by decide +kernel, rfl⟩
theorem dX6_in_1 : Dc cX6_in 1 (.iload_n 1) 1 2 := ⟨by decide +kernel, rfl⟩
theorem dX6_in_2 : Dj cX6_in 2 (.if_icmp .lt 12) 3 5 (12) 14 := ⟨by decide +kernel, rfl, by decide⟩
theorem dX6_in_5 : Dc cX6_in 5 (.iload_n 0) 1 6 := ⟨by decide +kernel, rfl⟩
theorem dX6_in_6 : Dc cX6_in 6 (.iload_n 2) 1 7 := ⟨by decide +kernel, rfl⟩
theorem dX6_in_7 : Dj cX6_in 7 (.if_icmp .gt 7) 3 10 (7) 14 := ⟨by decide +kernel, rfl, by decide⟩
theorem dX6_in_10 : Dc cX6_in 10 (.iconst 1) 1 11 := ⟨by decide +kernel, rfl⟩
theorem dX6_in_11 : Dj cX6_in 11 (.goto 4) 3 14 (4) 15 := ⟨by decide +kernel, rfl, by decide⟩
theorem dX6_in_14 : Dc cX6_in 14 (.iconst 0) 1 15 := ⟨by decide +kernel, rfl⟩
theorem dX6_in_15 : Dc cX6_in 15 (.ireturn) 1 16 := ⟨by decide +kernel, rfl⟩
def F_X6_in (o : OM) (v0 : Int32) (v1 : Int32) (v2 : Int32) : Option Int32 := bd (fun (s_1 : Int32) => grd (isZ s_1) (some s_1)) (fun k15 => bd (fun (_ : Unit) => k15 ((0 : Int32))) (fun k14 => if v0 < v1 then (k14 ()) else (if v2 < v0 then (k14 ()) else (k15 ((1 : Int32))))))
abbrev rmX6_in : Room := { frames := 0, cells := 0, slots := 0, locals := 0 }
set_option maxHeartbeats 4000000 in
set_option maxRecDepth 100000 in
theorem wX6_in {G : Gd} {p : Program} {l : Launch} {e : Env} {s : State} {m : MethodId} {args : Array Value} {below : List Frame} {meth : Method} {c : Code} {o : OM} {H : Heap} {L0 : List Loc} {ls : Array Slot} {r : Int32} {v0 : Int32} {v1 : Int32} {v2 : Int32} (C : Cx G RX6 cX6_in 3 (some .boolean) p s m args meth c)  (P : Hp G o s H L0) (hl : lv_has ls 3 [(0, .int v0), (1, .int v1), (2, .int v2)]) (hf : F_X6_in o v0 v1 v2 = some r) : W p l e rmX6_in s m args below meth c H L0 0 0 (Qm G (some (.int r)) o rmX6_in below args s) (F0 m 0 ls []) := by
  unfold F_X6_in at hf
  refine r_iload_n C hl 0 rfl rfl dX6_in_0 ?_
  refine r_iload_n C hl 1 rfl rfl dX6_in_1 ?_
  refine r_jn (fun k15 : Int32 → Option Int32 => ∀ (s_1 : Int32) H1 L1 ls, Hp G o s H1 L1 → lv_has ls 3 [] → k15 s_1 = some r → W p l e rmX6_in s m args below meth c H1 L1 0 0 (Qm G (some (.int r)) o rmX6_in below args s) (F0 m 15 ls [.int s_1])) hf ?_ (fun k15 j15 hf => ?_)
  · intro s_1 H1 L1 ls  P hl hf
    exact q_zret C P (rm := rmX6_in) ⟨rfl, rfl⟩ dX6_in_15 hf
  refine r_jn (fun k14 : Unit → Option Int32 => ∀ H1 L1 ls, Hp G o s H1 L1 → lv_has ls 3 [] → k14 () = some r → W p l e rmX6_in s m args below meth c H1 L1 0 0 (Qm G (some (.int r)) o rmX6_in below args s) (F0 m 14 ls [])) hf ?_ (fun k14 j14 hf => ?_)
  · intro  H1 L1 ls  P hl hf
    refine r_iconst C (v := 0) (by decide) dX6_in_14 ?_
    exact j15 ((0 : Int32)) _ _ _ P (lv_sub hl [] rfl) hf
  refine r_icmp_lt C dX6_in_2 hf (fun hf => ?_) (fun hf => ?_)
  · exact j14  _ _ _ P (lv_sub hl [] rfl) hf
  · refine r_iload_n C hl 0 rfl rfl dX6_in_5 ?_
    refine r_iload_n C hl 2 rfl rfl dX6_in_6 ?_
    refine r_icmp_gt C dX6_in_7 hf (fun hf => ?_) (fun hf => ?_)
    · exact j14  _ _ _ P (lv_sub hl [] rfl) hf
    · refine r_iconst C (v := 1) (by decide) dX6_in_10 ?_
      refine r_goto C dX6_in_11 ?_
      exact j15 ((1 : Int32)) _ _ _ P (lv_sub hl [] rfl) hf
theorem ctX6_in (l : Launch) (G : Gd) (o : OM) (v0 : Int32) (v1 : Int32) (v2 : Int32)  {r : Int32} (hf : F_X6_in o v0 v1 v2 = some r) : Ct l yX6_in cX6_in 3 (some .boolean) rmX6_in G [.int v0, .int v1, .int v2] o (some (.int r)) o := ct_of (by decide +kernel) (Nat.le_of_ble_eq_true rfl) (fun p e s m below meth c ls C P hl => wX6_in C  P hl hf)
theorem dX6_holds_0 : Dc cX6_holds 0 (.aload_n 0) 1 1 := ⟨by decide +kernel, rfl⟩
theorem dX6_holds_1 : Dc cX6_holds 1 (.iload_n 1) 1 2 := ⟨by decide +kernel, rfl⟩
theorem dX6_holds_2 : Dc cX6_holds 2 (.putfield 22) 3 5 := ⟨by decide +kernel, rfl⟩
theorem dX6_holds_5 : Dc cX6_holds 5 (.iload_n 1) 1 6 := ⟨by decide +kernel, rfl⟩
theorem dX6_holds_6 : Dj cX6_holds 6 (.ifCond .ne 7) 3 9 (7) 13 := ⟨by decide +kernel, rfl, by decide⟩
theorem dX6_holds_9 : Dc cX6_holds 9 (.iconst 1) 1 10 := ⟨by decide +kernel, rfl⟩
theorem dX6_holds_10 : Dj cX6_holds 10 (.goto 4) 3 13 (4) 14 := ⟨by decide +kernel, rfl, by decide⟩
theorem dX6_holds_13 : Dc cX6_holds 13 (.iconst 0) 1 14 := ⟨by decide +kernel, rfl⟩
theorem dX6_holds_14 : Dc cX6_holds 14 (.ireturn) 1 15 := ⟨by decide +kernel, rfl⟩
def F_X6_holds (o : OM) (v1 : Int32) : Option (Int32 × OM) := bd (wr o 19 0 0 v1) (fun o_1 : OM => bd (fun (s_2 : Int32) => grd (isZ s_2) (some (s_2, o_1))) (fun k14 => if v1 = 0 then (k14 ((1 : Int32))) else (k14 ((0 : Int32)))))
abbrev rmX6_holds : Room := { frames := 0, cells := 0, slots := 0, locals := 0 }
set_option maxHeartbeats 4000000 in
set_option maxRecDepth 100000 in
theorem wX6_holds {G : Gd} {p : Program} {l : Launch} {e : Env} {s : State} {m : MethodId} {args : Array Value} {below : List Frame} {meth : Method} {c : Code} {o : OM} {H : Heap} {L0 : List Loc} {ls : Array Slot} {r : Int32} {o9 : OM} {v1 : Int32} (C : Cx G RX6 cX6_holds 2 (some .boolean) p s m args meth c)  (P : Hp G o s H L0) (hl : lv_has ls 2 [(0, .ref (rA G 19 0)), (1, .int v1)]) (hf : F_X6_holds o v1 = some (r, o9)) : W p l e rmX6_holds s m args below meth c H L0 0 0 (Qm G (some (.int r)) o9 rmX6_holds below args s) (F0 m 0 ls []) := by
  unfold F_X6_holds at hf
  refine r_aload_n C hl 0 rfl rfl dX6_holds_0 ?_
  refine r_iload_n C hl 1 rfl rfl dX6_holds_1 ?_
  refine pf_19_0 C P rfl wd_879 dX6_holds_2 hf (fun o_1 H1 L1 P hf => ?_)
  refine r_iload_n C hl 1 rfl rfl dX6_holds_5 ?_
  refine r_jn (fun k14 : Int32 → Option (Int32 × OM) => ∀ (s_2 : Int32) H1 L1 ls, Hp G o_1 s H1 L1 → lv_has ls 2 [] → k14 s_2 = some (r, o9) → W p l e rmX6_holds s m args below meth c H1 L1 0 0 (Qm G (some (.int r)) o9 rmX6_holds below args s) (F0 m 14 ls [.int s_2])) hf ?_ (fun k14 j14 hf => ?_)
  · intro s_2 H1 L1 ls  P hl hf
    exact r_zret C P (rm := rmX6_holds) ⟨rfl, rfl⟩ dX6_holds_14 hf
  refine r_if_ne C dX6_holds_6 hf (fun hf => ?_) (fun hf => ?_)
  · refine r_iconst C (v := 0) (by decide) dX6_holds_13 ?_
    exact j14 ((0 : Int32)) _ _ _ P (lv_sub hl [] rfl) hf
  · refine r_iconst C (v := 1) (by decide) dX6_holds_9 ?_
    refine r_goto C dX6_holds_10 ?_
    exact j14 ((1 : Int32)) _ _ _ P (lv_sub hl [] rfl) hf
theorem ctX6_holds (l : Launch) (G : Gd) (o : OM) (v1 : Int32)  {r : Int32} {o9 : OM} (hf : F_X6_holds o v1 = some (r, o9)) : Ct l yX6_holds cX6_holds 2 (some .boolean) rmX6_holds G [.ref (rA G 19 0), .int v1] o (some (.int r)) o9 := ct_of (by decide +kernel) (Nat.le_of_ble_eq_true rfl) (fun p e s m below meth c ls C P hl => wX6_holds C  P hl hf)
theorem cf_X6_26 : CallF true RX6 26 yX6_in cX6_in 3 (some .boolean) 3 := ⟨wd_933, (by rw [if_pos rfl]; exact wd_934), wd_71, wd_935, by decide, by decide +kernel⟩
theorem dX6_isThere_0 : Dc cX6_isThere 0 (.iload_n 1) 1 1 := ⟨by decide +kernel, rfl⟩
theorem dX6_isThere_1 : Dc cX6_isThere 1 (.iconst 0) 1 2 := ⟨by decide +kernel, rfl⟩
theorem dX6_isThere_2 : Dc cX6_isThere 2 (.aload_n 0) 1 3 := ⟨by decide +kernel, rfl⟩
theorem dX6_isThere_3 : Dc cX6_isThere 3 (.getfield 7) 3 6 := ⟨by decide +kernel, rfl⟩
theorem dX6_isThere_6 : Dc cX6_isThere 6 (.sipush 228) 3 9 := ⟨by decide +kernel, rfl⟩
theorem dX6_isThere_9 : Dc cX6_isThere 9 (.iaload) 1 10 := ⟨by decide +kernel, rfl⟩
theorem dX6_isThere_10 : Dc cX6_isThere 10 (.iconst 1) 1 11 := ⟨by decide +kernel, rfl⟩
theorem dX6_isThere_11 : Dc cX6_isThere 11 (.isub) 1 12 := ⟨by decide +kernel, rfl⟩
theorem dX6_isThere_12 : Dc cX6_isThere 12 (.invokestatic 26) 3 15 := ⟨by decide +kernel, rfl⟩
theorem dX6_isThere_15 : Dc cX6_isThere 15 (.ireturn) 1 16 := ⟨by decide +kernel, rfl⟩
def F_X6_isThere (o : OM) (v1 : Int32) : Option Int32 := grd (inB ((228 : Int32)) 244) (bq (F_X6_in o v1 ((0 : Int32)) ((rd o 20 0 ((228 : Int32)).toNatClampNeg) - ((1 : Int32)))) (fun r_1 => grd (isZ r_1) (some r_1)))
abbrev rmX6_isThere : Room := { frames := 1, cells := 0, slots := 0, locals := 22 }
set_option maxHeartbeats 4000000 in
set_option maxRecDepth 100000 in
theorem wX6_isThere {G : Gd} {p : Program} {l : Launch} {e : Env} {s : State} {m : MethodId} {args : Array Value} {below : List Frame} {meth : Method} {c : Code} {o : OM} {H : Heap} {L0 : List Loc} {ls : Array Slot} {r : Int32} {v1 : Int32} (C : Cx G RX6 cX6_isThere 2 (some .boolean) p s m args meth c)  (P : Hp G o s H L0) (hl : lv_has ls 2 [(0, .ref (rA G 19 0)), (1, .int v1)]) (hf : F_X6_isThere o v1 = some r) : W p l e rmX6_isThere s m args below meth c H L0 0 0 (Qm G (some (.int r)) o rmX6_isThere below args s) (F0 m 0 ls []) := by
  unfold F_X6_isThere at hf
  refine r_iload_n C hl 1 rfl rfl dX6_isThere_0 ?_
  refine r_iconst C (v := 0) (by decide) dX6_isThere_1 ?_
  refine r_aload_n C hl 0 rfl rfl dX6_isThere_2 ?_
  refine gf_19_1 C P rfl wd_880 dX6_isThere_3 ?_
  refine r_sipush C (v := 228) (by decide) dX6_isThere_6 ?_
  refine r_iald C P (k := 20) (i := 0) (n := 244) (fun _ _ => rfl) rfl dX6_isThere_9 hf (fun hf => ?_)
  refine r_iconst C (v := 1) (by decide) dX6_isThere_10 ?_
  refine r_isub C dX6_isThere_11 ?_
  refine r_qSi C P cf_X6_26 (rm := rmX6_in) [.int v1, .int ((0 : Int32)), .int ((rd o 20 0 ((228 : Int32)).toNatClampNeg) - ((1 : Int32)))] [] hf (fun _ h => ctX6_in l G o v1 ((0 : Int32)) ((rd o 20 0 ((228 : Int32)).toNatClampNeg) - ((1 : Int32))) h) ⟨rfl, rfl⟩ ⟨Nat.le_of_ble_eq_true rfl, Nat.le_of_ble_eq_true rfl⟩ ⟨Nat.le_of_ble_eq_true rfl, Nat.le_of_ble_eq_true rfl⟩ rfl rfl hl.1 (Nat.le_of_ble_eq_true rfl) dX6_isThere_12 (fun r_1 H1 L1 P hf => ?_)
  exact q_zret C P (rm := rmX6_isThere) ⟨rfl, rfl⟩ dX6_isThere_15 hf
theorem ctX6_isThere (l : Launch) (G : Gd) (o : OM) (v1 : Int32)  {r : Int32} (hf : F_X6_isThere o v1 = some r) : Ct l yX6_isThere cX6_isThere 2 (some .boolean) rmX6_isThere G [.ref (rA G 19 0), .int v1] o (some (.int r)) o := ct_of (by decide +kernel) (Nat.le_of_ble_eq_true rfl) (fun p e s m below meth c ls C P hl => wX6_isThere C  P hl hf)
theorem dX6_isBath_0 : Dc cX6_isBath 0 (.iload_n 0) 1 1 := ⟨by decide +kernel, rfl⟩
theorem dX6_isBath_1 : Dc cX6_isBath 1 (.iconst 0) 1 2 := ⟨by decide +kernel, rfl⟩
theorem dX6_isBath_2 : Dc cX6_isBath 2 (.iconst 3) 1 3 := ⟨by decide +kernel, rfl⟩
theorem dX6_isBath_3 : Dc cX6_isBath 3 (.invokestatic 26) 3 6 := ⟨by decide +kernel, rfl⟩
theorem dX6_isBath_6 : Dc cX6_isBath 6 (.ireturn) 1 7 := ⟨by decide +kernel, rfl⟩
def F_X6_isBath (o : OM) (v0 : Int32) : Option Int32 := bq (F_X6_in o v0 ((0 : Int32)) ((3 : Int32))) (fun r_1 => grd (isZ r_1) (some r_1))
abbrev rmX6_isBath : Room := { frames := 1, cells := 0, slots := 0, locals := 22 }
set_option maxHeartbeats 4000000 in
set_option maxRecDepth 100000 in
theorem wX6_isBath {G : Gd} {p : Program} {l : Launch} {e : Env} {s : State} {m : MethodId} {args : Array Value} {below : List Frame} {meth : Method} {c : Code} {o : OM} {H : Heap} {L0 : List Loc} {ls : Array Slot} {r : Int32} {v0 : Int32} (C : Cx G RX6 cX6_isBath 1 (some .boolean) p s m args meth c)  (P : Hp G o s H L0) (hl : lv_has ls 1 [(0, .int v0)]) (hf : F_X6_isBath o v0 = some r) : W p l e rmX6_isBath s m args below meth c H L0 0 0 (Qm G (some (.int r)) o rmX6_isBath below args s) (F0 m 0 ls []) := by
  unfold F_X6_isBath at hf
  refine r_iload_n C hl 0 rfl rfl dX6_isBath_0 ?_
  refine r_iconst C (v := 0) (by decide) dX6_isBath_1 ?_
  refine r_iconst C (v := 3) (by decide) dX6_isBath_2 ?_
  refine r_qSi C P cf_X6_26 (rm := rmX6_in) [.int v0, .int ((0 : Int32)), .int ((3 : Int32))] [] hf (fun _ h => ctX6_in l G o v0 ((0 : Int32)) ((3 : Int32)) h) ⟨rfl, rfl⟩ ⟨Nat.le_of_ble_eq_true rfl, Nat.le_of_ble_eq_true rfl⟩ ⟨Nat.le_of_ble_eq_true rfl, Nat.le_of_ble_eq_true rfl⟩ rfl rfl hl.1 (Nat.le_of_ble_eq_true rfl) dX6_isBath_3 (fun r_1 H1 L1 P hf => ?_)
  exact q_zret C P (rm := rmX6_isBath) ⟨rfl, rfl⟩ dX6_isBath_6 hf
theorem ctX6_isBath (l : Launch) (G : Gd) (o : OM) (v0 : Int32)  {r : Int32} (hf : F_X6_isBath o v0 = some r) : Ct l yX6_isBath cX6_isBath 1 (some .boolean) rmX6_isBath G [.int v0] o (some (.int r)) o := ct_of (by decide +kernel) (Nat.le_of_ble_eq_true rfl) (fun p e s m below meth c ls C P hl => wX6_isBath C  P hl hf)
theorem dX6_isDegree_0 : Dc cX6_isDegree 0 (.iload_n 0) 1 1 := ⟨by decide +kernel, rfl⟩
theorem dX6_isDegree_1 : Dc cX6_isDegree 1 (.sipush (-400)) 3 4 := ⟨by decide +kernel, rfl⟩
theorem dX6_isDegree_4 : Dc cX6_isDegree 4 (.sipush 1500) 3 7 := ⟨by decide +kernel, rfl⟩
theorem dX6_isDegree_7 : Dc cX6_isDegree 7 (.invokestatic 26) 3 10 := ⟨by decide +kernel, rfl⟩
theorem dX6_isDegree_10 : Dc cX6_isDegree 10 (.ireturn) 1 11 := ⟨by decide +kernel, rfl⟩
def F_X6_isDegree (o : OM) (v0 : Int32) : Option Int32 := bq (F_X6_in o v0 ((-400 : Int32)) ((1500 : Int32))) (fun r_1 => grd (isZ r_1) (some r_1))
abbrev rmX6_isDegree : Room := { frames := 1, cells := 0, slots := 0, locals := 22 }
set_option maxHeartbeats 4000000 in
set_option maxRecDepth 100000 in
theorem wX6_isDegree {G : Gd} {p : Program} {l : Launch} {e : Env} {s : State} {m : MethodId} {args : Array Value} {below : List Frame} {meth : Method} {c : Code} {o : OM} {H : Heap} {L0 : List Loc} {ls : Array Slot} {r : Int32} {v0 : Int32} (C : Cx G RX6 cX6_isDegree 1 (some .boolean) p s m args meth c)  (P : Hp G o s H L0) (hl : lv_has ls 1 [(0, .int v0)]) (hf : F_X6_isDegree o v0 = some r) : W p l e rmX6_isDegree s m args below meth c H L0 0 0 (Qm G (some (.int r)) o rmX6_isDegree below args s) (F0 m 0 ls []) := by
  unfold F_X6_isDegree at hf
  refine r_iload_n C hl 0 rfl rfl dX6_isDegree_0 ?_
  refine r_sipush C (v := -400) (by decide) dX6_isDegree_1 ?_
  refine r_sipush C (v := 1500) (by decide) dX6_isDegree_4 ?_
  refine r_qSi C P cf_X6_26 (rm := rmX6_in) [.int v0, .int ((-400 : Int32)), .int ((1500 : Int32))] [] hf (fun _ h => ctX6_in l G o v0 ((-400 : Int32)) ((1500 : Int32)) h) ⟨rfl, rfl⟩ ⟨Nat.le_of_ble_eq_true rfl, Nat.le_of_ble_eq_true rfl⟩ ⟨Nat.le_of_ble_eq_true rfl, Nat.le_of_ble_eq_true rfl⟩ rfl rfl hl.1 (Nat.le_of_ble_eq_true rfl) dX6_isDegree_7 (fun r_1 H1 L1 P hf => ?_)
  exact q_zret C P (rm := rmX6_isDegree) ⟨rfl, rfl⟩ dX6_isDegree_10 hf
theorem ctX6_isDegree (l : Launch) (G : Gd) (o : OM) (v0 : Int32)  {r : Int32} (hf : F_X6_isDegree o v0 = some r) : Ct l yX6_isDegree cX6_isDegree 1 (some .boolean) rmX6_isDegree G [.int v0] o (some (.int r)) o := ct_of (by decide +kernel) (Nat.le_of_ble_eq_true rfl) (fun p e s m below meth c ls C P hl => wX6_isDegree C  P hl hf)
theorem dX6_of_0 : Dc cX6_of 0 (.iconst 0) 1 1 := ⟨by decide +kernel, rfl⟩
theorem dX6_of_1 : Dc cX6_of 1 (.bipush 38) 2 3 := ⟨by decide +kernel, rfl⟩
theorem dX6_of_3 : Dc cX6_of 3 (.iload_n 0) 1 4 := ⟨by decide +kernel, rfl⟩
theorem dX6_of_4 : Dc cX6_of 4 (.imul) 1 5 := ⟨by decide +kernel, rfl⟩
theorem dX6_of_5 : Dc cX6_of 5 (.iadd) 1 6 := ⟨by decide +kernel, rfl⟩
theorem dX6_of_6 : Dc cX6_of 6 (.iload_n 1) 1 7 := ⟨by decide +kernel, rfl⟩
theorem dX6_of_7 : Dc cX6_of 7 (.iadd) 1 8 := ⟨by decide +kernel, rfl⟩
theorem dX6_of_8 : Dc cX6_of 8 (.ireturn) 1 9 := ⟨by decide +kernel, rfl⟩
def F_X6_of (o : OM) (v0 : Int32) (v1 : Int32) : Option Int32 := some ((((0 : Int32)) + (((38 : Int32)) * v0)) + v1)
abbrev rmX6_of : Room := { frames := 0, cells := 0, slots := 0, locals := 0 }
set_option maxHeartbeats 4000000 in
set_option maxRecDepth 100000 in
theorem wX6_of {G : Gd} {p : Program} {l : Launch} {e : Env} {s : State} {m : MethodId} {args : Array Value} {below : List Frame} {meth : Method} {c : Code} {o : OM} {H : Heap} {L0 : List Loc} {ls : Array Slot} {r : Int32} {v0 : Int32} {v1 : Int32} (C : Cx G RX6 cX6_of 2 (some .int) p s m args meth c)  (P : Hp G o s H L0) (hl : lv_has ls 2 [(0, .int v0), (1, .int v1)]) (hf : F_X6_of o v0 v1 = some r) : W p l e rmX6_of s m args below meth c H L0 0 0 (Qm G (some (.int r)) o rmX6_of below args s) (F0 m 0 ls []) := by
  unfold F_X6_of at hf
  refine r_iconst C (v := 0) (by decide) dX6_of_0 ?_
  refine r_bipush C (v := 38) (by decide) dX6_of_1 ?_
  refine r_iload_n C hl 0 rfl rfl dX6_of_3 ?_
  refine r_imul C dX6_of_4 ?_
  refine r_iadd2 C dX6_of_5 ?_
  refine r_iload_n C hl 1 rfl rfl dX6_of_6 ?_
  refine r_iadd2 C dX6_of_7 ?_
  exact q_iret C P (rm := rmX6_of) ⟨rfl, rfl⟩ dX6_of_8 hf
theorem ctX6_of (l : Launch) (G : Gd) (o : OM) (v0 : Int32) (v1 : Int32)  {r : Int32} (hf : F_X6_of o v0 v1 = some r) : Ct l yX6_of cX6_of 2 (some .int) rmX6_of G [.int v0, .int v1] o (some (.int r)) o := ct_of (by decide +kernel) (Nat.le_of_ble_eq_true rfl) (fun p e s m below meth c ls C P hl => wX6_of C  P hl hf)
theorem cf_X6_30 : CallF true RX6 30 yX6_of cX6_of 2 (some .int) 2 := ⟨wd_948, (by rw [if_pos rfl]; exact wd_949), wd_71, wd_950, by decide, by decide +kernel⟩
theorem dX6_get_0 : Dc cX6_get 0 (.aload_n 0) 1 1 := ⟨by decide +kernel, rfl⟩
theorem dX6_get_1 : Dc cX6_get 1 (.getfield 7) 3 4 := ⟨by decide +kernel, rfl⟩
theorem dX6_get_4 : Dc cX6_get 4 (.iload_n 1) 1 5 := ⟨by decide +kernel, rfl⟩
theorem dX6_get_5 : Dc cX6_get 5 (.iload_n 2) 1 6 := ⟨by decide +kernel, rfl⟩
theorem dX6_get_6 : Dc cX6_get 6 (.invokestatic 30) 3 9 := ⟨by decide +kernel, rfl⟩
theorem dX6_get_9 : Dc cX6_get 9 (.iaload) 1 10 := ⟨by decide +kernel, rfl⟩
theorem dX6_get_10 : Dc cX6_get 10 (.ireturn) 1 11 := ⟨by decide +kernel, rfl⟩
def F_X6_get (o : OM) (v1 : Int32) (v2 : Int32) : Option Int32 := bq (F_X6_of o v1 v2) (fun r_1 => grd (inB r_1 244) (some (rd o 20 0 r_1.toNatClampNeg)))
abbrev rmX6_get : Room := { frames := 1, cells := 0, slots := 0, locals := 21 }
set_option maxHeartbeats 4000000 in
set_option maxRecDepth 100000 in
theorem wX6_get {G : Gd} {p : Program} {l : Launch} {e : Env} {s : State} {m : MethodId} {args : Array Value} {below : List Frame} {meth : Method} {c : Code} {o : OM} {H : Heap} {L0 : List Loc} {ls : Array Slot} {r : Int32} {v1 : Int32} {v2 : Int32} (C : Cx G RX6 cX6_get 3 (some .int) p s m args meth c)  (P : Hp G o s H L0) (hl : lv_has ls 3 [(0, .ref (rA G 19 0)), (1, .int v1), (2, .int v2)]) (hf : F_X6_get o v1 v2 = some r) : W p l e rmX6_get s m args below meth c H L0 0 0 (Qm G (some (.int r)) o rmX6_get below args s) (F0 m 0 ls []) := by
  unfold F_X6_get at hf
  refine r_aload_n C hl 0 rfl rfl dX6_get_0 ?_
  refine gf_19_1 C P rfl wd_880 dX6_get_1 ?_
  refine r_iload_n C hl 1 rfl rfl dX6_get_4 ?_
  refine r_iload_n C hl 2 rfl rfl dX6_get_5 ?_
  refine r_qSi C P cf_X6_30 (rm := rmX6_of) [.int v1, .int v2] [.ref (rA G 20 0)] hf (fun _ h => ctX6_of l G o v1 v2 h) ⟨rfl, rfl⟩ ⟨Nat.le_of_ble_eq_true rfl, Nat.le_of_ble_eq_true rfl⟩ ⟨Nat.le_of_ble_eq_true rfl, Nat.le_of_ble_eq_true rfl⟩ rfl rfl hl.1 (Nat.le_of_ble_eq_true rfl) dX6_get_6 (fun r_1 H1 L1 P hf => ?_)
  refine r_iald C P (k := 20) (i := 0) (n := 244) (fun _ _ => rfl) rfl dX6_get_9 hf (fun hf => ?_)
  exact q_iret C P (rm := rmX6_get) ⟨rfl, rfl⟩ dX6_get_10 hf
theorem ctX6_get (l : Launch) (G : Gd) (o : OM) (v1 : Int32) (v2 : Int32)  {r : Int32} (hf : F_X6_get o v1 v2 = some r) : Ct l yX6_get cX6_get 3 (some .int) rmX6_get G [.ref (rA G 19 0), .int v1, .int v2] o (some (.int r)) o := ct_of (by decide +kernel) (Nat.le_of_ble_eq_true rfl) (fun p e s m below meth c ls C P hl => wX6_get C  P hl hf)
theorem dX6_pointOf_0 : Dc cX6_pointOf 0 (.aload_n 0) 1 1 := ⟨by decide +kernel, rfl⟩
theorem dX6_pointOf_1 : Dc cX6_pointOf 1 (.getfield 7) 3 4 := ⟨by decide +kernel, rfl⟩
theorem dX6_pointOf_4 : Dc cX6_pointOf 4 (.iload_n 1) 1 5 := ⟨by decide +kernel, rfl⟩
theorem dX6_pointOf_5 : Dc cX6_pointOf 5 (.bipush 8) 2 7 := ⟨by decide +kernel, rfl⟩
theorem dX6_pointOf_7 : Dc cX6_pointOf 7 (.iconst 3) 1 8 := ⟨by decide +kernel, rfl⟩
theorem dX6_pointOf_8 : Dc cX6_pointOf 8 (.iload_n 2) 1 9 := ⟨by decide +kernel, rfl⟩
theorem dX6_pointOf_9 : Dc cX6_pointOf 9 (.imul) 1 10 := ⟨by decide +kernel, rfl⟩
theorem dX6_pointOf_10 : Dc cX6_pointOf 10 (.iadd) 1 11 := ⟨by decide +kernel, rfl⟩
theorem dX6_pointOf_11 : Dc cX6_pointOf 11 (.iload_n 3) 1 12 := ⟨by decide +kernel, rfl⟩
theorem dX6_pointOf_12 : Dc cX6_pointOf 12 (.iadd) 1 13 := ⟨by decide +kernel, rfl⟩
theorem dX6_pointOf_13 : Dc cX6_pointOf 13 (.invokestatic 30) 3 16 := ⟨by decide +kernel, rfl⟩
theorem dX6_pointOf_16 : Dc cX6_pointOf 16 (.iaload) 1 17 := ⟨by decide +kernel, rfl⟩
theorem dX6_pointOf_17 : Dc cX6_pointOf 17 (.ireturn) 1 18 := ⟨by decide +kernel, rfl⟩
def F_X6_pointOf (o : OM) (v1 : Int32) (v2 : Int32) (v3 : Int32) : Option Int32 := bq (F_X6_of o v1 ((((8 : Int32)) + (((3 : Int32)) * v2)) + v3)) (fun r_1 => grd (inB r_1 244) (some (rd o 20 0 r_1.toNatClampNeg)))
abbrev rmX6_pointOf : Room := { frames := 1, cells := 0, slots := 0, locals := 21 }
set_option maxHeartbeats 4000000 in
set_option maxRecDepth 100000 in
theorem wX6_pointOf {G : Gd} {p : Program} {l : Launch} {e : Env} {s : State} {m : MethodId} {args : Array Value} {below : List Frame} {meth : Method} {c : Code} {o : OM} {H : Heap} {L0 : List Loc} {ls : Array Slot} {r : Int32} {v1 : Int32} {v2 : Int32} {v3 : Int32} (C : Cx G RX6 cX6_pointOf 4 (some .int) p s m args meth c)  (P : Hp G o s H L0) (hl : lv_has ls 4 [(0, .ref (rA G 19 0)), (1, .int v1), (2, .int v2), (3, .int v3)]) (hf : F_X6_pointOf o v1 v2 v3 = some r) : W p l e rmX6_pointOf s m args below meth c H L0 0 0 (Qm G (some (.int r)) o rmX6_pointOf below args s) (F0 m 0 ls []) := by
  unfold F_X6_pointOf at hf
  refine r_aload_n C hl 0 rfl rfl dX6_pointOf_0 ?_
  refine gf_19_1 C P rfl wd_880 dX6_pointOf_1 ?_
  refine r_iload_n C hl 1 rfl rfl dX6_pointOf_4 ?_
  refine r_bipush C (v := 8) (by decide) dX6_pointOf_5 ?_
  refine r_iconst C (v := 3) (by decide) dX6_pointOf_7 ?_
  refine r_iload_n C hl 2 rfl rfl dX6_pointOf_8 ?_
  refine r_imul C dX6_pointOf_9 ?_
  refine r_iadd2 C dX6_pointOf_10 ?_
  refine r_iload_n C hl 3 rfl rfl dX6_pointOf_11 ?_
  refine r_iadd2 C dX6_pointOf_12 ?_
  refine r_qSi C P cf_X6_30 (rm := rmX6_of) [.int v1, .int ((((8 : Int32)) + (((3 : Int32)) * v2)) + v3)] [.ref (rA G 20 0)] hf (fun _ h => ctX6_of l G o v1 ((((8 : Int32)) + (((3 : Int32)) * v2)) + v3) h) ⟨rfl, rfl⟩ ⟨Nat.le_of_ble_eq_true rfl, Nat.le_of_ble_eq_true rfl⟩ ⟨Nat.le_of_ble_eq_true rfl, Nat.le_of_ble_eq_true rfl⟩ rfl rfl hl.1 (Nat.le_of_ble_eq_true rfl) dX6_pointOf_13 (fun r_1 H1 L1 P hf => ?_)
  refine r_iald C P (k := 20) (i := 0) (n := 244) (fun _ _ => rfl) rfl dX6_pointOf_16 hf (fun hf => ?_)
  exact q_iret C P (rm := rmX6_pointOf) ⟨rfl, rfl⟩ dX6_pointOf_17 hf
theorem ctX6_pointOf (l : Launch) (G : Gd) (o : OM) (v1 : Int32) (v2 : Int32) (v3 : Int32)  {r : Int32} (hf : F_X6_pointOf o v1 v2 v3 = some r) : Ct l yX6_pointOf cX6_pointOf 4 (some .int) rmX6_pointOf G [.ref (rA G 19 0), .int v1, .int v2, .int v3] o (some (.int r)) o := ct_of (by decide +kernel) (Nat.le_of_ble_eq_true rfl) (fun p e s m below meth c ls C P hl => wX6_pointOf C  P hl hf)
theorem dX6_save_0 : Dc cX6_save 0 (.aload_n 0) 1 1 := ⟨by decide +kernel, rfl⟩
theorem dX6_save_1 : Dc cX6_save 1 (.getfield 34) 3 4 := ⟨by decide +kernel, rfl⟩
theorem dX6_save_4 : Dc cX6_save 4 (.bipush 6) 2 6 := ⟨by decide +kernel, rfl⟩
theorem dX6_save_6 : Dj cX6_save 6 (.if_icmp .ne 44) 3 9 (44) 50 := ⟨by decide +kernel, rfl, by decide⟩
theorem dX6_save_9 : Dc cX6_save 9 (.iconst 0) 1 10 := ⟨by decide +kernel, rfl⟩
theorem dX6_save_10 : Dc cX6_save 10 (.istore_n 1) 1 11 := ⟨by decide +kernel, rfl⟩
theorem dX6_save_11 : Dc cX6_save 11 (.iload_n 1) 1 12 := ⟨by decide +kernel, rfl⟩
theorem dX6_save_12 : Dc cX6_save 12 (.sipush 1220) 3 15 := ⟨by decide +kernel, rfl⟩
theorem dX6_save_15 : Dj cX6_save 15 (.if_icmp .ge 25) 3 18 (25) 40 := ⟨by decide +kernel, rfl, by decide⟩
theorem dX6_save_18 : Dc cX6_save 18 (.aload_n 0) 1 19 := ⟨by decide +kernel, rfl⟩
theorem dX6_save_19 : Dc cX6_save 19 (.getfield 13) 3 22 := ⟨by decide +kernel, rfl⟩
theorem dX6_save_22 : Dc cX6_save 22 (.iload_n 1) 1 23 := ⟨by decide +kernel, rfl⟩
theorem dX6_save_23 : Dc cX6_save 23 (.aload_n 0) 1 24 := ⟨by decide +kernel, rfl⟩
theorem dX6_save_24 : Dc cX6_save 24 (.getfield 13) 3 27 := ⟨by decide +kernel, rfl⟩
theorem dX6_save_27 : Dc cX6_save 27 (.iload_n 1) 1 28 := ⟨by decide +kernel, rfl⟩
theorem dX6_save_28 : Dc cX6_save 28 (.sipush 244) 3 31 := ⟨by decide +kernel, rfl⟩
theorem dX6_save_31 : Dc cX6_save 31 (.iadd) 1 32 := ⟨by decide +kernel, rfl⟩
theorem dX6_save_32 : Dc cX6_save 32 (.iaload) 1 33 := ⟨by decide +kernel, rfl⟩
theorem dX6_save_33 : Dc cX6_save 33 (.iastore) 1 34 := ⟨by decide +kernel, rfl⟩
theorem dX6_save_34 : Dc cX6_save 34 (.iinc 1 1) 3 37 := ⟨by decide +kernel, rfl⟩
theorem dX6_save_37 : Dj cX6_save 37 (.goto (-26)) 3 40 (-26) 11 := ⟨by decide +kernel, rfl, by decide⟩
theorem dX6_save_40 : Dc cX6_save 40 (.aload_n 0) 1 41 := ⟨by decide +kernel, rfl⟩
theorem dX6_save_41 : Dc cX6_save 41 (.dup) 1 42 := ⟨by decide +kernel, rfl⟩
theorem dX6_save_42 : Dc cX6_save 42 (.getfield 34) 3 45 := ⟨by decide +kernel, rfl⟩
theorem dX6_save_45 : Dc cX6_save 45 (.iconst 1) 1 46 := ⟨by decide +kernel, rfl⟩
theorem dX6_save_46 : Dc cX6_save 46 (.isub) 1 47 := ⟨by decide +kernel, rfl⟩
theorem dX6_save_47 : Dc cX6_save 47 (.putfield 34) 3 50 := ⟨by decide +kernel, rfl⟩
theorem dX6_save_50 : Dc cX6_save 50 (.iconst 0) 1 51 := ⟨by decide +kernel, rfl⟩
theorem dX6_save_51 : Dc cX6_save 51 (.istore_n 1) 1 52 := ⟨by decide +kernel, rfl⟩
theorem dX6_save_52 : Dc cX6_save 52 (.iload_n 1) 1 53 := ⟨by decide +kernel, rfl⟩
theorem dX6_save_53 : Dc cX6_save 53 (.sipush 244) 3 56 := ⟨by decide +kernel, rfl⟩
theorem dX6_save_56 : Dj cX6_save 56 (.if_icmp .ge 30) 3 59 (30) 86 := ⟨by decide +kernel, rfl, by decide⟩
theorem dX6_save_59 : Dc cX6_save 59 (.aload_n 0) 1 60 := ⟨by decide +kernel, rfl⟩
theorem dX6_save_60 : Dc cX6_save 60 (.getfield 13) 3 63 := ⟨by decide +kernel, rfl⟩
theorem dX6_save_63 : Dc cX6_save 63 (.sipush 244) 3 66 := ⟨by decide +kernel, rfl⟩
theorem dX6_save_66 : Dc cX6_save 66 (.aload_n 0) 1 67 := ⟨by decide +kernel, rfl⟩
theorem dX6_save_67 : Dc cX6_save 67 (.getfield 34) 3 70 := ⟨by decide +kernel, rfl⟩
theorem dX6_save_70 : Dc cX6_save 70 (.imul) 1 71 := ⟨by decide +kernel, rfl⟩
theorem dX6_save_71 : Dc cX6_save 71 (.iload_n 1) 1 72 := ⟨by decide +kernel, rfl⟩
theorem dX6_save_72 : Dc cX6_save 72 (.iadd) 1 73 := ⟨by decide +kernel, rfl⟩
theorem dX6_save_73 : Dc cX6_save 73 (.aload_n 0) 1 74 := ⟨by decide +kernel, rfl⟩
theorem dX6_save_74 : Dc cX6_save 74 (.getfield 7) 3 77 := ⟨by decide +kernel, rfl⟩
theorem dX6_save_77 : Dc cX6_save 77 (.iload_n 1) 1 78 := ⟨by decide +kernel, rfl⟩
theorem dX6_save_78 : Dc cX6_save 78 (.iaload) 1 79 := ⟨by decide +kernel, rfl⟩
theorem dX6_save_79 : Dc cX6_save 79 (.iastore) 1 80 := ⟨by decide +kernel, rfl⟩
theorem dX6_save_80 : Dc cX6_save 80 (.iinc 1 1) 3 83 := ⟨by decide +kernel, rfl⟩
theorem dX6_save_83 : Dj cX6_save 83 (.goto (-31)) 3 86 (-31) 52 := ⟨by decide +kernel, rfl, by decide⟩
theorem dX6_save_86 : Dc cX6_save 86 (.aload_n 0) 1 87 := ⟨by decide +kernel, rfl⟩
theorem dX6_save_87 : Dc cX6_save 87 (.dup) 1 88 := ⟨by decide +kernel, rfl⟩
theorem dX6_save_88 : Dc cX6_save 88 (.getfield 34) 3 91 := ⟨by decide +kernel, rfl⟩
theorem dX6_save_91 : Dc cX6_save 91 (.iconst 1) 1 92 := ⟨by decide +kernel, rfl⟩
theorem dX6_save_92 : Dc cX6_save 92 (.iadd) 1 93 := ⟨by decide +kernel, rfl⟩
theorem dX6_save_93 : Dc cX6_save 93 (.putfield 34) 3 96 := ⟨by decide +kernel, rfl⟩
theorem dX6_save_96 : Dc cX6_save 96 (.return_) 1 97 := ⟨by decide +kernel, rfl⟩
def LX6_save_52 (k86 : OM → Option (Unit × OM)) : Nat → OM → Int32 → Option (Unit × OM)
  | 0 => fun _ _ => none
  | n + 1 => fun o_5 v1_4 => if ((244 : Int32)) ≤ v1_4 then (k86 o_5) else (grd (inB v1_4 244) (grd (inB ((((244 : Int32)) * (rd o_5 19 0 3)) + v1_4) 1464) (bd (wr o_5 21 0 ((((244 : Int32)) * (rd o_5 19 0 3)) + v1_4).toNatClampNeg (rd o_5 20 0 v1_4.toNatClampNeg)) (fun o_6 : OM => bd (v1_4 + (1 : Int32)) (fun v1_7 : Int32 => (LX6_save_52 k86 n) o_6 v1_7)))))
def LX6_save_11 (k40 : OM → Option (Unit × OM)) : Nat → OM → Int32 → Option (Unit × OM)
  | 0 => fun _ _ => none
  | n + 1 => fun o_11 v1_10 => if ((1220 : Int32)) ≤ v1_10 then (k40 o_11) else (grd (inB (v1_10 + ((244 : Int32))) 1464) (grd (inB v1_10 1464) (bd (wr o_11 21 0 v1_10.toNatClampNeg (rd o_11 21 0 (v1_10 + ((244 : Int32))).toNatClampNeg)) (fun o_12 : OM => bd (v1_10 + (1 : Int32)) (fun v1_13 : Int32 => (LX6_save_11 k40 n) o_12 v1_13)))))
def F_X6_save (o : OM) : Option (Unit × OM) := bd (fun (o_1 : OM) => bd (fun (o_2 : OM) => bd (wr o_2 19 0 3 ((rd o_2 19 0 3) + ((1 : Int32)))) (fun o_3 : OM => some ((), o_3))) (fun k86 => LX6_save_52 k86 FU o_1 ((0 : Int32)))) (fun k50 => if (rd o 19 0 3) = ((6 : Int32)) then (bd (fun (o_8 : OM) => bd (wr o_8 19 0 3 ((rd o_8 19 0 3) - ((1 : Int32)))) (fun o_9 : OM => k50 o_9)) (fun k40 => LX6_save_11 k40 FU o ((0 : Int32)))) else (k50 o))
abbrev rmX6_save : Room := { frames := 0, cells := 0, slots := 0, locals := 0 }
set_option maxHeartbeats 4000000 in
set_option maxRecDepth 100000 in
theorem lX6_save_52 {G : Gd} {p : Program} {l : Launch} {e : Env} {s : State} {m : MethodId} {args : Array Value} {below : List Frame} {meth : Method} {c : Code} {r : Unit} {o9 : OM}  (C : Cx G RX6 cX6_save 2 none p s m args meth c)  {k86 : OM → Option (Unit × OM)} (j86 : ∀ (o_2 : OM) H1 L1 ls, Hp G o_2 s H1 L1 → lv_has ls 2 [(0, .ref (rA G 19 0))] → k86 o_2 = some (r, o9) → W p l e rmX6_save s m args below meth c H1 L1 0 0 (Qm G none o9 rmX6_save below args s) (F0 m 86 ls [])) : ∀ (n : Nat) (o_5 : OM) (v1_4 : Int32) H1 L1 ls, Hp G o_5 s H1 L1 → lv_has ls 2 [(0, .ref (rA G 19 0)), (1, .int v1_4)] → LX6_save_52 k86 n o_5 v1_4 = some (r, o9) → W p l e rmX6_save s m args below meth c H1 L1 0 0 (Qm G none o9 rmX6_save below args s) (F0 m 52 ls []) := by
  intro n
  induction n with
  | zero =>
    intro o_5 v1_4 H1 L1 ls P hl hf
    exact nomatch hf
  | succ n ih =>
    intro o_5 v1_4 H1 L1 ls P hl hf
    rw [LX6_save_52.eq_2] at hf
    refine r_iload_n C hl 1 rfl rfl dX6_save_52 ?_
    refine r_sipush C (v := 244) (by decide) dX6_save_53 ?_
    refine r_icmp_ge C dX6_save_56 hf (fun hf => ?_) (fun hf => ?_)
    · exact j86 o_5 _ _ _ P (lv_sub hl [0] rfl) hf
    · refine r_aload_n C hl 0 rfl rfl dX6_save_59 ?_
      refine gf_19_2 C P rfl wd_881 dX6_save_60 ?_
      refine r_sipush C (v := 244) (by decide) dX6_save_63 ?_
      refine r_aload_n C hl 0 rfl rfl dX6_save_66 ?_
      refine gf_19_3 C P rfl wd_882 dX6_save_67 ?_
      refine r_imul C dX6_save_70 ?_
      refine r_iload_n C hl 1 rfl rfl dX6_save_71 ?_
      refine r_iadd2 C dX6_save_72 ?_
      refine r_aload_n C hl 0 rfl rfl dX6_save_73 ?_
      refine gf_19_1 C P rfl wd_880 dX6_save_74 ?_
      refine r_iload_n C hl 1 rfl rfl dX6_save_77 ?_
      refine r_iald C P (k := 20) (i := 0) (n := 244) (fun _ _ => rfl) rfl dX6_save_78 hf (fun hf => ?_)
      refine r_iast C P (k := 21) (i := 0) (n := 1464) (fun _ _ => rfl) rfl dX6_save_79 hf (fun o_6 H1 L1 P hf => ?_)
      refine r_iinc C (fun v1_7 => [(1, .int v1_7), (0, .ref (rA G 19 0))]) (w := 1) 1 hl rfl (by decide) (by decide) (fun _ => rfl) dX6_save_80 hf (fun v1_7 ls hl hf => ?_)
      refine r_goto C dX6_save_83 ?_
      exact ih o_6 v1_7 _ _ _ P (lv_sub hl [1, 0] rfl) hf
set_option maxHeartbeats 4000000 in
set_option maxRecDepth 100000 in
theorem lX6_save_11 {G : Gd} {p : Program} {l : Launch} {e : Env} {s : State} {m : MethodId} {args : Array Value} {below : List Frame} {meth : Method} {c : Code} {r : Unit} {o9 : OM}  (C : Cx G RX6 cX6_save 2 none p s m args meth c)  {k40 : OM → Option (Unit × OM)} (j40 : ∀ (o_8 : OM) H1 L1 ls, Hp G o_8 s H1 L1 → lv_has ls 2 [(0, .ref (rA G 19 0))] → k40 o_8 = some (r, o9) → W p l e rmX6_save s m args below meth c H1 L1 0 0 (Qm G none o9 rmX6_save below args s) (F0 m 40 ls [])) : ∀ (n : Nat) (o_11 : OM) (v1_10 : Int32) H1 L1 ls, Hp G o_11 s H1 L1 → lv_has ls 2 [(0, .ref (rA G 19 0)), (1, .int v1_10)] → LX6_save_11 k40 n o_11 v1_10 = some (r, o9) → W p l e rmX6_save s m args below meth c H1 L1 0 0 (Qm G none o9 rmX6_save below args s) (F0 m 11 ls []) := by
  intro n
  induction n with
  | zero =>
    intro o_11 v1_10 H1 L1 ls P hl hf
    exact nomatch hf
  | succ n ih =>
    intro o_11 v1_10 H1 L1 ls P hl hf
    rw [LX6_save_11.eq_2] at hf
    refine r_iload_n C hl 1 rfl rfl dX6_save_11 ?_
    refine r_sipush C (v := 1220) (by decide) dX6_save_12 ?_
    refine r_icmp_ge C dX6_save_15 hf (fun hf => ?_) (fun hf => ?_)
    · exact j40 o_11 _ _ _ P (lv_sub hl [0] rfl) hf
    · refine r_aload_n C hl 0 rfl rfl dX6_save_18 ?_
      refine gf_19_2 C P rfl wd_881 dX6_save_19 ?_
      refine r_iload_n C hl 1 rfl rfl dX6_save_22 ?_
      refine r_aload_n C hl 0 rfl rfl dX6_save_23 ?_
      refine gf_19_2 C P rfl wd_881 dX6_save_24 ?_
      refine r_iload_n C hl 1 rfl rfl dX6_save_27 ?_
      refine r_sipush C (v := 244) (by decide) dX6_save_28 ?_
      refine r_iadd2 C dX6_save_31 ?_
      refine r_iald C P (k := 21) (i := 0) (n := 1464) (fun _ _ => rfl) rfl dX6_save_32 hf (fun hf => ?_)
      refine r_iast C P (k := 21) (i := 0) (n := 1464) (fun _ _ => rfl) rfl dX6_save_33 hf (fun o_12 H1 L1 P hf => ?_)
      refine r_iinc C (fun v1_13 => [(1, .int v1_13), (0, .ref (rA G 19 0))]) (w := 1) 1 hl rfl (by decide) (by decide) (fun _ => rfl) dX6_save_34 hf (fun v1_13 ls hl hf => ?_)
      refine r_goto C dX6_save_37 ?_
      exact ih o_12 v1_13 _ _ _ P (lv_sub hl [1, 0] rfl) hf
set_option maxHeartbeats 4000000 in
set_option maxRecDepth 100000 in
theorem wX6_save {G : Gd} {p : Program} {l : Launch} {e : Env} {s : State} {m : MethodId} {args : Array Value} {below : List Frame} {meth : Method} {c : Code} {o : OM} {H : Heap} {L0 : List Loc} {ls : Array Slot} {r : Unit} {o9 : OM}  (C : Cx G RX6 cX6_save 2 none p s m args meth c)  (P : Hp G o s H L0) (hl : lv_has ls 2 [(0, .ref (rA G 19 0))]) (hf : F_X6_save o  = some (r, o9)) : W p l e rmX6_save s m args below meth c H L0 0 0 (Qm G none o9 rmX6_save below args s) (F0 m 0 ls []) := by
  unfold F_X6_save at hf
  refine r_aload_n C hl 0 rfl rfl dX6_save_0 ?_
  refine gf_19_3 C P rfl wd_882 dX6_save_1 ?_
  refine r_bipush C (v := 6) (by decide) dX6_save_4 ?_
  refine r_jn (fun k50 : OM → Option (Unit × OM) => ∀ (o_1 : OM) H1 L1 ls, Hp G o_1 s H1 L1 → lv_has ls 2 [(0, .ref (rA G 19 0))] → k50 o_1 = some (r, o9) → W p l e rmX6_save s m args below meth c H1 L1 0 0 (Qm G none o9 rmX6_save below args s) (F0 m 50 ls [])) hf ?_ (fun k50 j50 hf => ?_)
  · intro o_1 H1 L1 ls  P hl hf
    refine r_iconst C (v := 0) (by decide) dX6_save_50 ?_
    refine r_istore_n C [(1, .int ((0 : Int32))), (0, .ref (rA G 19 0))] hl (by decide) rfl rfl dX6_save_51 (fun ls hl => ?_)
    refine r_jn (fun k86 : OM → Option (Unit × OM) => ∀ (o_2 : OM) H1 L1 ls, Hp G o_2 s H1 L1 → lv_has ls 2 [(0, .ref (rA G 19 0))] → k86 o_2 = some (r, o9) → W p l e rmX6_save s m args below meth c H1 L1 0 0 (Qm G none o9 rmX6_save below args s) (F0 m 86 ls [])) hf ?_ (fun k86 j86 hf => ?_)
    · intro o_2 H1 L1 ls  P hl hf
      refine r_aload_n C hl 0 rfl rfl dX6_save_86 ?_
      refine r_dup C rfl dX6_save_87 ?_
      refine gf_19_3 C P rfl wd_882 dX6_save_88 ?_
      refine r_iconst C (v := 1) (by decide) dX6_save_91 ?_
      refine r_iadd2 C dX6_save_92 ?_
      refine pf_19_3 C P rfl wd_882 dX6_save_93 hf (fun o_3 H1 L1 P hf => ?_)
      exact r_vret C P (rm := rmX6_save) ⟨rfl, rfl⟩ dX6_save_96 hf
    exact lX6_save_52 C  j86 FU o_1 ((0 : Int32)) _ _ _ P (lv_sub hl [1, 0] rfl) hf
  refine r_icmp_ne C dX6_save_6 hf (fun hf => ?_) (fun hf => ?_)
  · exact j50 o _ _ _ P (lv_sub hl [0] rfl) hf
  · refine r_iconst C (v := 0) (by decide) dX6_save_9 ?_
    refine r_istore_n C [(1, .int ((0 : Int32))), (0, .ref (rA G 19 0))] hl (by decide) rfl rfl dX6_save_10 (fun ls hl => ?_)
    refine r_jn (fun k40 : OM → Option (Unit × OM) => ∀ (o_8 : OM) H1 L1 ls, Hp G o_8 s H1 L1 → lv_has ls 2 [(0, .ref (rA G 19 0))] → k40 o_8 = some (r, o9) → W p l e rmX6_save s m args below meth c H1 L1 0 0 (Qm G none o9 rmX6_save below args s) (F0 m 40 ls [])) hf ?_ (fun k40 j40 hf => ?_)
    · intro o_8 H1 L1 ls  P hl hf
      refine r_aload_n C hl 0 rfl rfl dX6_save_40 ?_
      refine r_dup C rfl dX6_save_41 ?_
      refine gf_19_3 C P rfl wd_882 dX6_save_42 ?_
      refine r_iconst C (v := 1) (by decide) dX6_save_45 ?_
      refine r_isub C dX6_save_46 ?_
      refine pf_19_3 C P rfl wd_882 dX6_save_47 hf (fun o_9 H1 L1 P hf => ?_)
      exact j50 o_9 _ _ _ P (lv_sub hl [0] rfl) hf
    exact lX6_save_11 C  j40 FU o ((0 : Int32)) _ _ _ P (lv_sub hl [1, 0] rfl) hf
theorem ctX6_save (l : Launch) (G : Gd) (o : OM)   {r : Unit} {o9 : OM} (hf : F_X6_save o  = some (r, o9)) : Ct l yX6_save cX6_save 2 none rmX6_save G [.ref (rA G 19 0)] o none o9 := ct_of (by decide +kernel) (Nat.le_of_ble_eq_true rfl) (fun p e s m below meth c ls C P hl => wX6_save C  P hl hf)
theorem dX6_divided_0 : Dc cX6_divided 0 (.iload_n 0) 1 1 := ⟨by decide +kernel, rfl⟩
theorem dX6_divided_1 : Dc cX6_divided 1 (.iload_n 1) 1 2 := ⟨by decide +kernel, rfl⟩
theorem dX6_divided_2 : Dc cX6_divided 2 (.idiv) 1 3 := ⟨by decide +kernel, rfl⟩
theorem dX6_divided_3 : Dc cX6_divided 3 (.istore_n 2) 1 4 := ⟨by decide +kernel, rfl⟩
theorem dX6_divided_4 : Dc cX6_divided 4 (.iload_n 2) 1 5 := ⟨by decide +kernel, rfl⟩
theorem dX6_divided_5 : Dc cX6_divided 5 (.iload_n 1) 1 6 := ⟨by decide +kernel, rfl⟩
theorem dX6_divided_6 : Dc cX6_divided 6 (.imul) 1 7 := ⟨by decide +kernel, rfl⟩
theorem dX6_divided_7 : Dc cX6_divided 7 (.iload_n 0) 1 8 := ⟨by decide +kernel, rfl⟩
theorem dX6_divided_8 : Dj cX6_divided 8 (.if_icmp .le 9) 3 11 (9) 17 := ⟨by decide +kernel, rfl, by decide⟩
theorem dX6_divided_11 : Dc cX6_divided 11 (.iload_n 2) 1 12 := ⟨by decide +kernel, rfl⟩
theorem dX6_divided_12 : Dc cX6_divided 12 (.iconst 1) 1 13 := ⟨by decide +kernel, rfl⟩
theorem dX6_divided_13 : Dc cX6_divided 13 (.isub) 1 14 := ⟨by decide +kernel, rfl⟩
theorem dX6_divided_14 : Dj cX6_divided 14 (.goto 4) 3 17 (4) 18 := ⟨by decide +kernel, rfl, by decide⟩
theorem dX6_divided_17 : Dc cX6_divided 17 (.iload_n 2) 1 18 := ⟨by decide +kernel, rfl⟩
theorem dX6_divided_18 : Dc cX6_divided 18 (.ireturn) 1 19 := ⟨by decide +kernel, rfl⟩
def F_X6_divided (o : OM) (v0 : Int32) (v1 : Int32) : Option Int32 := grd (decide (¬ v1 = 0)) (bd (v0 / v1) (fun v2_1 : Int32 => bd (fun (s_2 : Int32) => some s_2) (fun k18 => if (v2_1 * v1) ≤ v0 then (k18 v2_1) else (k18 (v2_1 - ((1 : Int32)))))))
abbrev rmX6_divided : Room := { frames := 0, cells := 0, slots := 0, locals := 0 }
set_option maxHeartbeats 4000000 in
set_option maxRecDepth 100000 in
theorem wX6_divided {G : Gd} {p : Program} {l : Launch} {e : Env} {s : State} {m : MethodId} {args : Array Value} {below : List Frame} {meth : Method} {c : Code} {o : OM} {H : Heap} {L0 : List Loc} {ls : Array Slot} {r : Int32} {v0 : Int32} {v1 : Int32} (C : Cx G RX6 cX6_divided 3 (some .int) p s m args meth c)  (P : Hp G o s H L0) (hl : lv_has ls 3 [(0, .int v0), (1, .int v1)]) (hf : F_X6_divided o v0 v1 = some r) : W p l e rmX6_divided s m args below meth c H L0 0 0 (Qm G (some (.int r)) o rmX6_divided below args s) (F0 m 0 ls []) := by
  unfold F_X6_divided at hf
  refine r_iload_n C hl 0 rfl rfl dX6_divided_0 ?_
  refine r_iload_n C hl 1 rfl rfl dX6_divided_1 ?_
  refine r_idiv C dX6_divided_2 hf (fun hf => ?_)
  refine r_bdi hf (fun v2_1 hf => ?_)
  refine r_istore_n C [(2, .int v2_1), (0, .int v0), (1, .int v1)] hl (by decide) rfl rfl dX6_divided_3 (fun ls hl => ?_)
  refine r_iload_n C hl 0 rfl rfl dX6_divided_4 ?_
  refine r_iload_n C hl 2 rfl rfl dX6_divided_5 ?_
  refine r_imul C dX6_divided_6 ?_
  refine r_iload_n C hl 1 rfl rfl dX6_divided_7 ?_
  refine r_jn (fun k18 : Int32 → Option Int32 => ∀ (s_2 : Int32) H1 L1 ls, Hp G o s H1 L1 → lv_has ls 3 [] → k18 s_2 = some r → W p l e rmX6_divided s m args below meth c H1 L1 0 0 (Qm G (some (.int r)) o rmX6_divided below args s) (F0 m 18 ls [.int s_2])) hf ?_ (fun k18 j18 hf => ?_)
  · intro s_2 H1 L1 ls  P hl hf
    exact q_iret C P (rm := rmX6_divided) ⟨rfl, rfl⟩ dX6_divided_18 hf
  refine r_icmp_le C dX6_divided_8 hf (fun hf => ?_) (fun hf => ?_)
  · refine r_iload_n C hl 0 rfl rfl dX6_divided_17 ?_
    exact j18 v2_1 _ _ _ P (lv_sub hl [] rfl) hf
  · refine r_iload_n C hl 0 rfl rfl dX6_divided_11 ?_
    refine r_iconst C (v := 1) (by decide) dX6_divided_12 ?_
    refine r_isub C dX6_divided_13 ?_
    refine r_goto C dX6_divided_14 ?_
    exact j18 (v2_1 - ((1 : Int32))) _ _ _ P (lv_sub hl [] rfl) hf
theorem ctX6_divided (l : Launch) (G : Gd) (o : OM) (v0 : Int32) (v1 : Int32)  {r : Int32} (hf : F_X6_divided o v0 v1 = some r) : Ct l yX6_divided cX6_divided 3 (some .int) rmX6_divided G [.int v0, .int v1] o (some (.int r)) o := ct_of (by decide +kernel) (Nat.le_of_ble_eq_true rfl) (fun p e s m below meth c ls C P hl => wX6_divided C  P hl hf)
theorem cf_X6_37 : CallF false RX6 37 yX6_get cX6_get 3 (some .int) 2 := ⟨wd_959, (by rw [if_neg (by decide)]; exact ⟨wd_961, wd_24⟩), wd_71, wd_962, by decide, by decide +kernel⟩
theorem cf_X6_40 : CallF true RX6 40 yX6_divided cX6_divided 3 (some .int) 2 := ⟨wd_1012, (by rw [if_pos rfl]; exact wd_1013), wd_71, wd_1014, by decide, by decide +kernel⟩
theorem dX6_readingOf_0 : Dc cX6_readingOf 0 (.iload_n 2) 1 1 := ⟨by decide +kernel, rfl⟩
theorem dX6_readingOf_1 : Dc cX6_readingOf 1 (.sipush 1000) 3 4 := ⟨by decide +kernel, rfl⟩
theorem dX6_readingOf_4 : Dc cX6_readingOf 4 (.aload_n 0) 1 5 := ⟨by decide +kernel, rfl⟩
theorem dX6_readingOf_5 : Dc cX6_readingOf 5 (.iload_n 1) 1 6 := ⟨by decide +kernel, rfl⟩
theorem dX6_readingOf_6 : Dc cX6_readingOf 6 (.iconst 1) 1 7 := ⟨by decide +kernel, rfl⟩
theorem dX6_readingOf_7 : Dc cX6_readingOf 7 (.invokevirtual 37) 3 10 := ⟨by decide +kernel, rfl⟩
theorem dX6_readingOf_10 : Dc cX6_readingOf 10 (.iadd) 1 11 := ⟨by decide +kernel, rfl⟩
theorem dX6_readingOf_11 : Dc cX6_readingOf 11 (.imul) 1 12 := ⟨by decide +kernel, rfl⟩
theorem dX6_readingOf_12 : Dc cX6_readingOf 12 (.sipush 1000) 3 15 := ⟨by decide +kernel, rfl⟩
theorem dX6_readingOf_15 : Dc cX6_readingOf 15 (.invokestatic 40) 3 18 := ⟨by decide +kernel, rfl⟩
theorem dX6_readingOf_18 : Dc cX6_readingOf 18 (.aload_n 0) 1 19 := ⟨by decide +kernel, rfl⟩
theorem dX6_readingOf_19 : Dc cX6_readingOf 19 (.iload_n 1) 1 20 := ⟨by decide +kernel, rfl⟩
theorem dX6_readingOf_20 : Dc cX6_readingOf 20 (.iconst 0) 1 21 := ⟨by decide +kernel, rfl⟩
theorem dX6_readingOf_21 : Dc cX6_readingOf 21 (.invokevirtual 37) 3 24 := ⟨by decide +kernel, rfl⟩
theorem dX6_readingOf_24 : Dc cX6_readingOf 24 (.iadd) 1 25 := ⟨by decide +kernel, rfl⟩
theorem dX6_readingOf_25 : Dc cX6_readingOf 25 (.aload_n 0) 1 26 := ⟨by decide +kernel, rfl⟩
theorem dX6_readingOf_26 : Dc cX6_readingOf 26 (.iload_n 1) 1 27 := ⟨by decide +kernel, rfl⟩
theorem dX6_readingOf_27 : Dc cX6_readingOf 27 (.iconst 4) 1 28 := ⟨by decide +kernel, rfl⟩
theorem dX6_readingOf_28 : Dc cX6_readingOf 28 (.invokevirtual 37) 3 31 := ⟨by decide +kernel, rfl⟩
theorem dX6_readingOf_31 : Dc cX6_readingOf 31 (.iadd) 1 32 := ⟨by decide +kernel, rfl⟩
theorem dX6_readingOf_32 : Dc cX6_readingOf 32 (.ireturn) 1 33 := ⟨by decide +kernel, rfl⟩
def F_X6_readingOf (o : OM) (v1 : Int32) (v2 : Int32) : Option Int32 := bq (F_X6_get o v1 ((1 : Int32))) (fun r_1 => bq (F_X6_divided o (v2 * (((1000 : Int32)) + r_1)) ((1000 : Int32))) (fun r_2 => bq (F_X6_get o v1 ((0 : Int32))) (fun r_3 => bq (F_X6_get o v1 ((4 : Int32))) (fun r_4 => some ((r_2 + r_3) + r_4)))))
abbrev rmX6_readingOf : Room := { frames := 2, cells := 0, slots := 0, locals := 43 }
set_option maxHeartbeats 4000000 in
set_option maxRecDepth 100000 in
theorem wX6_readingOf {G : Gd} {p : Program} {l : Launch} {e : Env} {s : State} {m : MethodId} {args : Array Value} {below : List Frame} {meth : Method} {c : Code} {o : OM} {H : Heap} {L0 : List Loc} {ls : Array Slot} {r : Int32} {v1 : Int32} {v2 : Int32} (C : Cx G RX6 cX6_readingOf 3 (some .int) p s m args meth c)  (P : Hp G o s H L0) (hl : lv_has ls 3 [(0, .ref (rA G 19 0)), (1, .int v1), (2, .int v2)]) (hf : F_X6_readingOf o v1 v2 = some r) : W p l e rmX6_readingOf s m args below meth c H L0 0 0 (Qm G (some (.int r)) o rmX6_readingOf below args s) (F0 m 0 ls []) := by
  unfold F_X6_readingOf at hf
  refine r_iload_n C hl 2 rfl rfl dX6_readingOf_0 ?_
  refine r_sipush C (v := 1000) (by decide) dX6_readingOf_1 ?_
  refine r_aload_n C hl 0 rfl rfl dX6_readingOf_4 ?_
  refine r_iload_n C hl 1 rfl rfl dX6_readingOf_5 ?_
  refine r_iconst C (v := 1) (by decide) dX6_readingOf_6 ?_
  refine r_qVi C P cf_X6_37 (rm := rmX6_get) 19 0 (fun _ _ => ⟨_, rfl⟩) rfl rfl rfl [.int v1, .int ((1 : Int32))] [.int ((1000 : Int32)), .int v2] hf (fun _ h => ctX6_get l G o v1 ((1 : Int32)) h) ⟨rfl, rfl⟩ ⟨Nat.le_of_ble_eq_true rfl, Nat.le_of_ble_eq_true rfl⟩ ⟨Nat.le_of_ble_eq_true rfl, Nat.le_of_ble_eq_true rfl⟩ rfl rfl hl.1 (Nat.le_of_ble_eq_true rfl) dX6_readingOf_7 (fun r_1 H1 L1 P hf => ?_)
  refine r_iadd2 C dX6_readingOf_10 ?_
  refine r_imul C dX6_readingOf_11 ?_
  refine r_sipush C (v := 1000) (by decide) dX6_readingOf_12 ?_
  refine r_qSi C P cf_X6_40 (rm := rmX6_divided) [.int (v2 * (((1000 : Int32)) + r_1)), .int ((1000 : Int32))] [] hf (fun _ h => ctX6_divided l G o (v2 * (((1000 : Int32)) + r_1)) ((1000 : Int32)) h) ⟨rfl, rfl⟩ ⟨Nat.le_of_ble_eq_true rfl, Nat.le_of_ble_eq_true rfl⟩ ⟨Nat.le_of_ble_eq_true rfl, Nat.le_of_ble_eq_true rfl⟩ rfl rfl hl.1 (Nat.le_of_ble_eq_true rfl) dX6_readingOf_15 (fun r_2 H1 L1 P hf => ?_)
  refine r_aload_n C hl 0 rfl rfl dX6_readingOf_18 ?_
  refine r_iload_n C hl 1 rfl rfl dX6_readingOf_19 ?_
  refine r_iconst C (v := 0) (by decide) dX6_readingOf_20 ?_
  refine r_qVi C P cf_X6_37 (rm := rmX6_get) 19 0 (fun _ _ => ⟨_, rfl⟩) rfl rfl rfl [.int v1, .int ((0 : Int32))] [.int r_2] hf (fun _ h => ctX6_get l G o v1 ((0 : Int32)) h) ⟨rfl, rfl⟩ ⟨Nat.le_of_ble_eq_true rfl, Nat.le_of_ble_eq_true rfl⟩ ⟨Nat.le_of_ble_eq_true rfl, Nat.le_of_ble_eq_true rfl⟩ rfl rfl hl.1 (Nat.le_of_ble_eq_true rfl) dX6_readingOf_21 (fun r_3 H1 L1 P hf => ?_)
  refine r_iadd2 C dX6_readingOf_24 ?_
  refine r_aload_n C hl 0 rfl rfl dX6_readingOf_25 ?_
  refine r_iload_n C hl 1 rfl rfl dX6_readingOf_26 ?_
  refine r_iconst C (v := 4) (by decide) dX6_readingOf_27 ?_
  refine r_qVi C P cf_X6_37 (rm := rmX6_get) 19 0 (fun _ _ => ⟨_, rfl⟩) rfl rfl rfl [.int v1, .int ((4 : Int32))] [.int (r_2 + r_3)] hf (fun _ h => ctX6_get l G o v1 ((4 : Int32)) h) ⟨rfl, rfl⟩ ⟨Nat.le_of_ble_eq_true rfl, Nat.le_of_ble_eq_true rfl⟩ ⟨Nat.le_of_ble_eq_true rfl, Nat.le_of_ble_eq_true rfl⟩ rfl rfl hl.1 (Nat.le_of_ble_eq_true rfl) dX6_readingOf_28 (fun r_4 H1 L1 P hf => ?_)
  refine r_iadd2 C dX6_readingOf_31 ?_
  exact q_iret C P (rm := rmX6_readingOf) ⟨rfl, rfl⟩ dX6_readingOf_32 hf
theorem ctX6_readingOf (l : Launch) (G : Gd) (o : OM) (v1 : Int32) (v2 : Int32)  {r : Int32} (hf : F_X6_readingOf o v1 v2 = some r) : Ct l yX6_readingOf cX6_readingOf 3 (some .int) rmX6_readingOf G [.ref (rA G 19 0), .int v1, .int v2] o (some (.int r)) o := ct_of (by decide +kernel) (Nat.le_of_ble_eq_true rfl) (fun p e s m below meth c ls C P hl => wX6_readingOf C  P hl hf)
theorem cf_X6_43 : CallF false RX6 43 yX6_pointOf cX6_pointOf 4 (some .int) 3 := ⟨wd_1004, (by rw [if_neg (by decide)]; exact ⟨wd_1006, wd_29⟩), wd_71, wd_1007, by decide, by decide +kernel⟩
theorem dX6_pointAt_0 : Dc cX6_pointAt 0 (.iconst (-1)) 1 1 := ⟨by decide +kernel, rfl⟩
theorem dX6_pointAt_1 : Dc cX6_pointAt 1 (.istore_n 3) 1 2 := ⟨by decide +kernel, rfl⟩
theorem dX6_pointAt_2 : Dc cX6_pointAt 2 (.iconst 0) 1 3 := ⟨by decide +kernel, rfl⟩
theorem dX6_pointAt_3 : Dc cX6_pointAt 3 (.istore 4) 2 5 := ⟨by decide +kernel, rfl⟩
theorem dX6_pointAt_5 : Dc cX6_pointAt 5 (.iload 4) 2 7 := ⟨by decide +kernel, rfl⟩
theorem dX6_pointAt_7 : Dc cX6_pointAt 7 (.aload_n 0) 1 8 := ⟨by decide +kernel, rfl⟩
theorem dX6_pointAt_8 : Dc cX6_pointAt 8 (.iload_n 1) 1 9 := ⟨by decide +kernel, rfl⟩
theorem dX6_pointAt_9 : Dc cX6_pointAt 9 (.bipush 7) 2 11 := ⟨by decide +kernel, rfl⟩
theorem dX6_pointAt_11 : Dc cX6_pointAt 11 (.invokevirtual 37) 3 14 := ⟨by decide +kernel, rfl⟩
theorem dX6_pointAt_14 : Dj cX6_pointAt 14 (.if_icmp .ge 28) 3 17 (28) 42 := ⟨by decide +kernel, rfl, by decide⟩
theorem dX6_pointAt_17 : Dc cX6_pointAt 17 (.aload_n 0) 1 18 := ⟨by decide +kernel, rfl⟩
theorem dX6_pointAt_18 : Dc cX6_pointAt 18 (.iload_n 1) 1 19 := ⟨by decide +kernel, rfl⟩
theorem dX6_pointAt_19 : Dc cX6_pointAt 19 (.iload 4) 2 21 := ⟨by decide +kernel, rfl⟩
theorem dX6_pointAt_21 : Dc cX6_pointAt 21 (.iconst 1) 1 22 := ⟨by decide +kernel, rfl⟩
theorem dX6_pointAt_22 : Dc cX6_pointAt 22 (.invokevirtual 43) 3 25 := ⟨by decide +kernel, rfl⟩
theorem dX6_pointAt_25 : Dc cX6_pointAt 25 (.iload_n 2) 1 26 := ⟨by decide +kernel, rfl⟩
theorem dX6_pointAt_26 : Dj cX6_pointAt 26 (.if_icmp .ne 8) 3 29 (8) 34 := ⟨by decide +kernel, rfl, by decide⟩
theorem dX6_pointAt_29 : Dc cX6_pointAt 29 (.iload 4) 2 31 := ⟨by decide +kernel, rfl⟩
theorem dX6_pointAt_31 : Dj cX6_pointAt 31 (.goto 4) 3 34 (4) 35 := ⟨by decide +kernel, rfl, by decide⟩
theorem dX6_pointAt_34 : Dc cX6_pointAt 34 (.iload_n 3) 1 35 := ⟨by decide +kernel, rfl⟩
theorem dX6_pointAt_35 : Dc cX6_pointAt 35 (.istore_n 3) 1 36 := ⟨by decide +kernel, rfl⟩
theorem dX6_pointAt_36 : Dc cX6_pointAt 36 (.iinc 4 1) 3 39 := ⟨by decide +kernel, rfl⟩
theorem dX6_pointAt_39 : Dj cX6_pointAt 39 (.goto (-34)) 3 42 (-34) 5 := ⟨by decide +kernel, rfl, by decide⟩
theorem dX6_pointAt_42 : Dc cX6_pointAt 42 (.iload_n 3) 1 43 := ⟨by decide +kernel, rfl⟩
theorem dX6_pointAt_43 : Dc cX6_pointAt 43 (.ireturn) 1 44 := ⟨by decide +kernel, rfl⟩
def LX6_pointAt_5 (k42 : Int32 → Option Int32) (o : OM) (v1 : Int32) (v2 : Int32) : Nat → Int32 → Int32 → Option Int32
  | 0 => fun _ _ => none
  | n + 1 => fun v3_2 v4_3 => bq (F_X6_get o v1 ((7 : Int32))) (fun r_4 => if r_4 ≤ v4_3 then (k42 v3_2) else (bq (F_X6_pointOf o v1 v4_3 ((1 : Int32))) (fun r_5 => bd (fun (s_6 : Int32) => bd (v4_3 + (1 : Int32)) (fun v4_7 : Int32 => (LX6_pointAt_5 k42 o v1 v2 n) s_6 v4_7)) (fun k35 => if r_5 = v2 then (k35 v4_3) else (k35 v3_2)))))
def F_X6_pointAt (o : OM) (v1 : Int32) (v2 : Int32) : Option Int32 := bd (fun (v3_1 : Int32) => some v3_1) (fun k42 => LX6_pointAt_5 k42 o v1 v2 FU ((-1 : Int32)) ((0 : Int32)))
abbrev rmX6_pointAt : Room := { frames := 2, cells := 0, slots := 0, locals := 44 }
set_option maxHeartbeats 4000000 in
set_option maxRecDepth 100000 in
theorem lX6_pointAt_5 {G : Gd} {p : Program} {l : Launch} {e : Env} {s : State} {m : MethodId} {args : Array Value} {below : List Frame} {meth : Method} {c : Code} {r : Int32} {o : OM} {v1 : Int32} {v2 : Int32} (C : Cx G RX6 cX6_pointAt 5 (some .int) p s m args meth c)  {k42 : Int32 → Option Int32} (j42 : ∀ (v3_1 : Int32) H1 L1 ls, Hp G o s H1 L1 → lv_has ls 5 [(3, .int v3_1)] → k42 v3_1 = some r → W p l e rmX6_pointAt s m args below meth c H1 L1 0 0 (Qm G (some (.int r)) o rmX6_pointAt below args s) (F0 m 42 ls [])) : ∀ (n : Nat) (v3_2 : Int32) (v4_3 : Int32) H1 L1 ls, Hp G o s H1 L1 → lv_has ls 5 [(0, .ref (rA G 19 0)), (1, .int v1), (2, .int v2), (3, .int v3_2), (4, .int v4_3)] → LX6_pointAt_5 k42 o v1 v2 n v3_2 v4_3 = some r → W p l e rmX6_pointAt s m args below meth c H1 L1 0 0 (Qm G (some (.int r)) o rmX6_pointAt below args s) (F0 m 5 ls []) := by
  intro n
  induction n with
  | zero =>
    intro v3_2 v4_3 H1 L1 ls P hl hf
    exact nomatch hf
  | succ n ih =>
    intro v3_2 v4_3 H1 L1 ls P hl hf
    rw [LX6_pointAt_5.eq_2] at hf
    refine r_iload C hl 4 rfl dX6_pointAt_5 ?_
    refine r_aload_n C hl 0 rfl rfl dX6_pointAt_7 ?_
    refine r_iload_n C hl 1 rfl rfl dX6_pointAt_8 ?_
    refine r_bipush C (v := 7) (by decide) dX6_pointAt_9 ?_
    refine r_qVi C P cf_X6_37 (rm := rmX6_get) 19 0 (fun _ _ => ⟨_, rfl⟩) rfl rfl rfl [.int v1, .int ((7 : Int32))] [.int v4_3] hf (fun _ h => ctX6_get l G o v1 ((7 : Int32)) h) ⟨rfl, rfl⟩ ⟨Nat.le_of_ble_eq_true rfl, Nat.le_of_ble_eq_true rfl⟩ ⟨Nat.le_of_ble_eq_true rfl, Nat.le_of_ble_eq_true rfl⟩ rfl rfl hl.1 (Nat.le_of_ble_eq_true rfl) dX6_pointAt_11 (fun r_4 H1 L1 P hf => ?_)
    refine r_icmp_ge C dX6_pointAt_14 hf (fun hf => ?_) (fun hf => ?_)
    · exact j42 v3_2 _ _ _ P (lv_sub hl [3] rfl) hf
    · refine r_aload_n C hl 0 rfl rfl dX6_pointAt_17 ?_
      refine r_iload_n C hl 1 rfl rfl dX6_pointAt_18 ?_
      refine r_iload C hl 4 rfl dX6_pointAt_19 ?_
      refine r_iconst C (v := 1) (by decide) dX6_pointAt_21 ?_
      refine r_qVi C P cf_X6_43 (rm := rmX6_pointOf) 19 0 (fun _ _ => ⟨_, rfl⟩) rfl rfl rfl [.int v1, .int v4_3, .int ((1 : Int32))] [] hf (fun _ h => ctX6_pointOf l G o v1 v4_3 ((1 : Int32)) h) ⟨rfl, rfl⟩ ⟨Nat.le_of_ble_eq_true rfl, Nat.le_of_ble_eq_true rfl⟩ ⟨Nat.le_of_ble_eq_true rfl, Nat.le_of_ble_eq_true rfl⟩ rfl rfl hl.1 (Nat.le_of_ble_eq_true rfl) dX6_pointAt_22 (fun r_5 H1 L1 P hf => ?_)
      refine r_iload_n C hl 2 rfl rfl dX6_pointAt_25 ?_
      refine r_jn (fun k35 : Int32 → Option Int32 => ∀ (s_6 : Int32) H1 L1 ls, Hp G o s H1 L1 → lv_has ls 5 [(0, .ref (rA G 19 0)), (1, .int v1), (2, .int v2), (4, .int v4_3)] → k35 s_6 = some r → W p l e rmX6_pointAt s m args below meth c H1 L1 0 0 (Qm G (some (.int r)) o rmX6_pointAt below args s) (F0 m 35 ls [.int s_6])) hf ?_ (fun k35 j35 hf => ?_)
      · intro s_6 H1 L1 ls  P hl hf
        refine r_istore_n C [(3, .int s_6), (0, .ref (rA G 19 0)), (1, .int v1), (2, .int v2), (4, .int v4_3)] hl (by decide) rfl rfl dX6_pointAt_35 (fun ls hl => ?_)
        refine r_iinc C (fun v4_7 => [(4, .int v4_7), (3, .int s_6), (0, .ref (rA G 19 0)), (1, .int v1), (2, .int v2)]) (w := 1) 4 hl rfl (by decide) (by decide) (fun _ => rfl) dX6_pointAt_36 hf (fun v4_7 ls hl hf => ?_)
        refine r_goto C dX6_pointAt_39 ?_
        exact ih s_6 v4_7 _ _ _ P (lv_sub hl [2, 3, 4, 1, 0] rfl) hf
      refine r_icmp_ne C dX6_pointAt_26 hf (fun hf => ?_) (fun hf => ?_)
      · refine r_iload_n C hl 3 rfl rfl dX6_pointAt_34 ?_
        exact j35 v3_2 _ _ _ P (lv_sub hl [0, 1, 2, 4] rfl) hf
      · refine r_iload C hl 4 rfl dX6_pointAt_29 ?_
        refine r_goto C dX6_pointAt_31 ?_
        exact j35 v4_3 _ _ _ P (lv_sub hl [0, 1, 2, 4] rfl) hf
set_option maxHeartbeats 4000000 in
set_option maxRecDepth 100000 in
theorem wX6_pointAt {G : Gd} {p : Program} {l : Launch} {e : Env} {s : State} {m : MethodId} {args : Array Value} {below : List Frame} {meth : Method} {c : Code} {o : OM} {H : Heap} {L0 : List Loc} {ls : Array Slot} {r : Int32} {v1 : Int32} {v2 : Int32} (C : Cx G RX6 cX6_pointAt 5 (some .int) p s m args meth c)  (P : Hp G o s H L0) (hl : lv_has ls 5 [(0, .ref (rA G 19 0)), (1, .int v1), (2, .int v2)]) (hf : F_X6_pointAt o v1 v2 = some r) : W p l e rmX6_pointAt s m args below meth c H L0 0 0 (Qm G (some (.int r)) o rmX6_pointAt below args s) (F0 m 0 ls []) := by
  unfold F_X6_pointAt at hf
  refine r_iconst C (v := -1) (by decide) dX6_pointAt_0 ?_
  refine r_istore_n C [(3, .int ((-1 : Int32))), (0, .ref (rA G 19 0)), (1, .int v1), (2, .int v2)] hl (by decide) rfl rfl dX6_pointAt_1 (fun ls hl => ?_)
  refine r_iconst C (v := 0) (by decide) dX6_pointAt_2 ?_
  refine r_istore C [(4, .int ((0 : Int32))), (3, .int ((-1 : Int32))), (0, .ref (rA G 19 0)), (1, .int v1), (2, .int v2)] hl (by decide) rfl dX6_pointAt_3 (fun ls hl => ?_)
  refine r_jn (fun k42 : Int32 → Option Int32 => ∀ (v3_1 : Int32) H1 L1 ls, Hp G o s H1 L1 → lv_has ls 5 [(3, .int v3_1)] → k42 v3_1 = some r → W p l e rmX6_pointAt s m args below meth c H1 L1 0 0 (Qm G (some (.int r)) o rmX6_pointAt below args s) (F0 m 42 ls [])) hf ?_ (fun k42 j42 hf => ?_)
  · intro v3_1 H1 L1 ls  P hl hf
    refine r_iload_n C hl 0 rfl rfl dX6_pointAt_42 ?_
    exact q_iret C P (rm := rmX6_pointAt) ⟨rfl, rfl⟩ dX6_pointAt_43 hf
  exact lX6_pointAt_5 C  j42 FU ((-1 : Int32)) ((0 : Int32)) _ _ _ P (lv_sub hl [2, 3, 4, 1, 0] rfl) hf
theorem ctX6_pointAt (l : Launch) (G : Gd) (o : OM) (v1 : Int32) (v2 : Int32)  {r : Int32} (hf : F_X6_pointAt o v1 v2 = some r) : Ct l yX6_pointAt cX6_pointAt 5 (some .int) rmX6_pointAt G [.ref (rA G 19 0), .int v1, .int v2] o (some (.int r)) o := ct_of (by decide +kernel) (Nat.le_of_ble_eq_true rfl) (fun p e s m below meth c ls C P hl => wX6_pointAt C  P hl hf)
theorem dX6_crosses_0 : Dc cX6_crosses 0 (.iconst 0) 1 1 := ⟨by decide +kernel, rfl⟩
theorem dX6_crosses_1 : Dc cX6_crosses 1 (.istore 4) 2 3 := ⟨by decide +kernel, rfl⟩
theorem dX6_crosses_3 : Dc cX6_crosses 3 (.iconst 0) 1 4 := ⟨by decide +kernel, rfl⟩
theorem dX6_crosses_4 : Dc cX6_crosses 4 (.istore 5) 2 6 := ⟨by decide +kernel, rfl⟩
theorem dX6_crosses_6 : Dc cX6_crosses 6 (.iload 5) 2 8 := ⟨by decide +kernel, rfl⟩
theorem dX6_crosses_8 : Dc cX6_crosses 8 (.aload_n 0) 1 9 := ⟨by decide +kernel, rfl⟩
theorem dX6_crosses_9 : Dc cX6_crosses 9 (.iload_n 1) 1 10 := ⟨by decide +kernel, rfl⟩
theorem dX6_crosses_10 : Dc cX6_crosses 10 (.bipush 7) 2 12 := ⟨by decide +kernel, rfl⟩
theorem dX6_crosses_12 : Dc cX6_crosses 12 (.invokevirtual 37) 3 15 := ⟨by decide +kernel, rfl⟩
theorem dX6_crosses_15 : Dj cX6_crosses 15 (.if_icmp .ge 77) 3 18 (77) 92 := ⟨by decide +kernel, rfl, by decide⟩
theorem dX6_crosses_18 : Dc cX6_crosses 18 (.aload_n 0) 1 19 := ⟨by decide +kernel, rfl⟩
theorem dX6_crosses_19 : Dc cX6_crosses 19 (.iload_n 1) 1 20 := ⟨by decide +kernel, rfl⟩
theorem dX6_crosses_20 : Dc cX6_crosses 20 (.iload 5) 2 22 := ⟨by decide +kernel, rfl⟩
theorem dX6_crosses_22 : Dc cX6_crosses 22 (.iconst 0) 1 23 := ⟨by decide +kernel, rfl⟩
theorem dX6_crosses_23 : Dc cX6_crosses 23 (.invokevirtual 43) 3 26 := ⟨by decide +kernel, rfl⟩
theorem dX6_crosses_26 : Dc cX6_crosses 26 (.istore 6) 2 28 := ⟨by decide +kernel, rfl⟩
theorem dX6_crosses_28 : Dc cX6_crosses 28 (.aload_n 0) 1 29 := ⟨by decide +kernel, rfl⟩
theorem dX6_crosses_29 : Dc cX6_crosses 29 (.iload_n 1) 1 30 := ⟨by decide +kernel, rfl⟩
theorem dX6_crosses_30 : Dc cX6_crosses 30 (.iload 5) 2 32 := ⟨by decide +kernel, rfl⟩
theorem dX6_crosses_32 : Dc cX6_crosses 32 (.iconst 1) 1 33 := ⟨by decide +kernel, rfl⟩
theorem dX6_crosses_33 : Dc cX6_crosses 33 (.invokevirtual 43) 3 36 := ⟨by decide +kernel, rfl⟩
theorem dX6_crosses_36 : Dc cX6_crosses 36 (.istore 7) 2 38 := ⟨by decide +kernel, rfl⟩
theorem dX6_crosses_38 : Dc cX6_crosses 38 (.iload 4) 2 40 := ⟨by decide +kernel, rfl⟩
theorem dX6_crosses_40 : Dj cX6_crosses 40 (.ifCond .ne 39) 3 43 (39) 79 := ⟨by decide +kernel, rfl, by decide⟩
theorem dX6_crosses_43 : Dc cX6_crosses 43 (.iload 7) 2 45 := ⟨by decide +kernel, rfl⟩
theorem dX6_crosses_45 : Dc cX6_crosses 45 (.iload_n 3) 1 46 := ⟨by decide +kernel, rfl⟩
theorem dX6_crosses_46 : Dj cX6_crosses 46 (.if_icmp .eq 37) 3 49 (37) 83 := ⟨by decide +kernel, rfl, by decide⟩
theorem dX6_crosses_49 : Dc cX6_crosses 49 (.iload 6) 2 51 := ⟨by decide +kernel, rfl⟩
theorem dX6_crosses_51 : Dc cX6_crosses 51 (.iload_n 2) 1 52 := ⟨by decide +kernel, rfl⟩
theorem dX6_crosses_52 : Dj cX6_crosses 52 (.if_icmp .eq 27) 3 55 (27) 79 := ⟨by decide +kernel, rfl, by decide⟩
theorem dX6_crosses_55 : Dc cX6_crosses 55 (.iload 6) 2 57 := ⟨by decide +kernel, rfl⟩
theorem dX6_crosses_57 : Dc cX6_crosses 57 (.iload_n 2) 1 58 := ⟨by decide +kernel, rfl⟩
theorem dX6_crosses_58 : Dj cX6_crosses 58 (.if_icmp .ge 9) 3 61 (9) 67 := ⟨by decide +kernel, rfl, by decide⟩
theorem dX6_crosses_61 : Dc cX6_crosses 61 (.iload 7) 2 63 := ⟨by decide +kernel, rfl⟩
theorem dX6_crosses_63 : Dc cX6_crosses 63 (.iload_n 3) 1 64 := ⟨by decide +kernel, rfl⟩
theorem dX6_crosses_64 : Dj cX6_crosses 64 (.if_icmp .gt 15) 3 67 (15) 79 := ⟨by decide +kernel, rfl, by decide⟩
theorem dX6_crosses_67 : Dc cX6_crosses 67 (.iload 6) 2 69 := ⟨by decide +kernel, rfl⟩
theorem dX6_crosses_69 : Dc cX6_crosses 69 (.iload_n 2) 1 70 := ⟨by decide +kernel, rfl⟩
theorem dX6_crosses_70 : Dj cX6_crosses 70 (.if_icmp .le 13) 3 73 (13) 83 := ⟨by decide +kernel, rfl, by decide⟩
theorem dX6_crosses_73 : Dc cX6_crosses 73 (.iload 7) 2 75 := ⟨by decide +kernel, rfl⟩
theorem dX6_crosses_75 : Dc cX6_crosses 75 (.iload_n 3) 1 76 := ⟨by decide +kernel, rfl⟩
theorem dX6_crosses_76 : Dj cX6_crosses 76 (.if_icmp .ge 7) 3 79 (7) 83 := ⟨by decide +kernel, rfl, by decide⟩
theorem dX6_crosses_79 : Dc cX6_crosses 79 (.iconst 1) 1 80 := ⟨by decide +kernel, rfl⟩
theorem dX6_crosses_80 : Dj cX6_crosses 80 (.goto 4) 3 83 (4) 84 := ⟨by decide +kernel, rfl, by decide⟩
theorem dX6_crosses_83 : Dc cX6_crosses 83 (.iconst 0) 1 84 := ⟨by decide +kernel, rfl⟩
theorem dX6_crosses_84 : Dc cX6_crosses 84 (.istore 4) 2 86 := ⟨by decide +kernel, rfl⟩
theorem dX6_crosses_86 : Dc cX6_crosses 86 (.iinc 5 1) 3 89 := ⟨by decide +kernel, rfl⟩
theorem dX6_crosses_89 : Dj cX6_crosses 89 (.goto (-83)) 3 92 (-83) 6 := ⟨by decide +kernel, rfl, by decide⟩
theorem dX6_crosses_92 : Dc cX6_crosses 92 (.iload 4) 2 94 := ⟨by decide +kernel, rfl⟩
theorem dX6_crosses_94 : Dc cX6_crosses 94 (.ireturn) 1 95 := ⟨by decide +kernel, rfl⟩
def LX6_crosses_6 (k92 : Int32 → Option Int32) (o : OM) (v1 : Int32) (v3 : Int32) (v2 : Int32) : Nat → Int32 → Int32 → Option Int32
  | 0 => fun _ _ => none
  | n + 1 => fun v4_2 v5_3 => bq (F_X6_get o v1 ((7 : Int32))) (fun r_4 => if r_4 ≤ v5_3 then (k92 v4_2) else (bq (F_X6_pointOf o v1 v5_3 ((0 : Int32))) (fun r_5 => bq (F_X6_pointOf o v1 v5_3 ((1 : Int32))) (fun r_6 => bd (fun (s_7 : Int32) => bd (v5_3 + (1 : Int32)) (fun v5_8 : Int32 => (LX6_crosses_6 k92 o v1 v3 v2 n) s_7 v5_8)) (fun k84 => bd (fun (_ : Unit) => k84 ((1 : Int32))) (fun k79 => if v4_2 = 0 then (bd (fun (_ : Unit) => k84 ((0 : Int32))) (fun k83 => if r_6 = v3 then (k83 ()) else (if r_5 = v2 then (k79 ()) else (bd (fun (_ : Unit) => if r_5 ≤ v2 then (k83 ()) else (if v3 ≤ r_6 then (k83 ()) else (k79 ()))) (fun k67 => if v2 ≤ r_5 then (k67 ()) else (if v3 < r_6 then (k79 ()) else (k67 ()))))))) else (k79 ())))))))
def F_X6_crosses (o : OM) (v1 : Int32) (v2 : Int32) (v3 : Int32) : Option Int32 := bd (fun (v4_1 : Int32) => grd (isZ v4_1) (some v4_1)) (fun k92 => LX6_crosses_6 k92 o v1 v3 v2 FU ((0 : Int32)) ((0 : Int32)))
abbrev rmX6_crosses : Room := { frames := 2, cells := 0, slots := 0, locals := 44 }
set_option maxHeartbeats 4000000 in
set_option maxRecDepth 100000 in
theorem lX6_crosses_6 {G : Gd} {p : Program} {l : Launch} {e : Env} {s : State} {m : MethodId} {args : Array Value} {below : List Frame} {meth : Method} {c : Code} {r : Int32} {o : OM} {v1 : Int32} {v3 : Int32} {v2 : Int32} (C : Cx G RX6 cX6_crosses 8 (some .boolean) p s m args meth c)  {k92 : Int32 → Option Int32} (j92 : ∀ (v4_1 : Int32) H1 L1 ls, Hp G o s H1 L1 → lv_has ls 8 [(4, .int v4_1)] → k92 v4_1 = some r → W p l e rmX6_crosses s m args below meth c H1 L1 0 0 (Qm G (some (.int r)) o rmX6_crosses below args s) (F0 m 92 ls [])) : ∀ (n : Nat) (v4_2 : Int32) (v5_3 : Int32) H1 L1 ls, Hp G o s H1 L1 → lv_has ls 8 [(0, .ref (rA G 19 0)), (1, .int v1), (2, .int v2), (3, .int v3), (4, .int v4_2), (5, .int v5_3)] → LX6_crosses_6 k92 o v1 v3 v2 n v4_2 v5_3 = some r → W p l e rmX6_crosses s m args below meth c H1 L1 0 0 (Qm G (some (.int r)) o rmX6_crosses below args s) (F0 m 6 ls []) := by
  intro n
  induction n with
  | zero =>
    intro v4_2 v5_3 H1 L1 ls P hl hf
    exact nomatch hf
  | succ n ih =>
    intro v4_2 v5_3 H1 L1 ls P hl hf
    rw [LX6_crosses_6.eq_2] at hf
    refine r_iload C hl 5 rfl dX6_crosses_6 ?_
    refine r_aload_n C hl 0 rfl rfl dX6_crosses_8 ?_
    refine r_iload_n C hl 1 rfl rfl dX6_crosses_9 ?_
    refine r_bipush C (v := 7) (by decide) dX6_crosses_10 ?_
    refine r_qVi C P cf_X6_37 (rm := rmX6_get) 19 0 (fun _ _ => ⟨_, rfl⟩) rfl rfl rfl [.int v1, .int ((7 : Int32))] [.int v5_3] hf (fun _ h => ctX6_get l G o v1 ((7 : Int32)) h) ⟨rfl, rfl⟩ ⟨Nat.le_of_ble_eq_true rfl, Nat.le_of_ble_eq_true rfl⟩ ⟨Nat.le_of_ble_eq_true rfl, Nat.le_of_ble_eq_true rfl⟩ rfl rfl hl.1 (Nat.le_of_ble_eq_true rfl) dX6_crosses_12 (fun r_4 H1 L1 P hf => ?_)
    refine r_icmp_ge C dX6_crosses_15 hf (fun hf => ?_) (fun hf => ?_)
    · exact j92 v4_2 _ _ _ P (lv_sub hl [4] rfl) hf
    · refine r_aload_n C hl 0 rfl rfl dX6_crosses_18 ?_
      refine r_iload_n C hl 1 rfl rfl dX6_crosses_19 ?_
      refine r_iload C hl 5 rfl dX6_crosses_20 ?_
      refine r_iconst C (v := 0) (by decide) dX6_crosses_22 ?_
      refine r_qVi C P cf_X6_43 (rm := rmX6_pointOf) 19 0 (fun _ _ => ⟨_, rfl⟩) rfl rfl rfl [.int v1, .int v5_3, .int ((0 : Int32))] [] hf (fun _ h => ctX6_pointOf l G o v1 v5_3 ((0 : Int32)) h) ⟨rfl, rfl⟩ ⟨Nat.le_of_ble_eq_true rfl, Nat.le_of_ble_eq_true rfl⟩ ⟨Nat.le_of_ble_eq_true rfl, Nat.le_of_ble_eq_true rfl⟩ rfl rfl hl.1 (Nat.le_of_ble_eq_true rfl) dX6_crosses_23 (fun r_5 H1 L1 P hf => ?_)
      refine r_istore C [(6, .int r_5), (0, .ref (rA G 19 0)), (1, .int v1), (2, .int v2), (3, .int v3), (4, .int v4_2), (5, .int v5_3)] hl (by decide) rfl dX6_crosses_26 (fun ls hl => ?_)
      refine r_aload_n C hl 1 rfl rfl dX6_crosses_28 ?_
      refine r_iload_n C hl 2 rfl rfl dX6_crosses_29 ?_
      refine r_iload C hl 6 rfl dX6_crosses_30 ?_
      refine r_iconst C (v := 1) (by decide) dX6_crosses_32 ?_
      refine r_qVi C P cf_X6_43 (rm := rmX6_pointOf) 19 0 (fun _ _ => ⟨_, rfl⟩) rfl rfl rfl [.int v1, .int v5_3, .int ((1 : Int32))] [] hf (fun _ h => ctX6_pointOf l G o v1 v5_3 ((1 : Int32)) h) ⟨rfl, rfl⟩ ⟨Nat.le_of_ble_eq_true rfl, Nat.le_of_ble_eq_true rfl⟩ ⟨Nat.le_of_ble_eq_true rfl, Nat.le_of_ble_eq_true rfl⟩ rfl rfl hl.1 (Nat.le_of_ble_eq_true rfl) dX6_crosses_33 (fun r_6 H1 L1 P hf => ?_)
      refine r_istore C [(7, .int r_6), (6, .int r_5), (0, .ref (rA G 19 0)), (1, .int v1), (2, .int v2), (3, .int v3), (4, .int v4_2), (5, .int v5_3)] hl (by decide) rfl dX6_crosses_36 (fun ls hl => ?_)
      refine r_iload C hl 6 rfl dX6_crosses_38 ?_
      refine r_jn (fun k84 : Int32 → Option Int32 => ∀ (s_7 : Int32) H1 L1 ls, Hp G o s H1 L1 → lv_has ls 8 [(0, .ref (rA G 19 0)), (1, .int v1), (2, .int v2), (3, .int v3), (5, .int v5_3)] → k84 s_7 = some r → W p l e rmX6_crosses s m args below meth c H1 L1 0 0 (Qm G (some (.int r)) o rmX6_crosses below args s) (F0 m 84 ls [.int s_7])) hf ?_ (fun k84 j84 hf => ?_)
      · intro s_7 H1 L1 ls  P hl hf
        refine r_istore C [(4, .int s_7), (0, .ref (rA G 19 0)), (1, .int v1), (2, .int v2), (3, .int v3), (5, .int v5_3)] hl (by decide) rfl dX6_crosses_84 (fun ls hl => ?_)
        refine r_iinc C (fun v5_8 => [(5, .int v5_8), (4, .int s_7), (0, .ref (rA G 19 0)), (1, .int v1), (2, .int v2), (3, .int v3)]) (w := 1) 5 hl rfl (by decide) (by decide) (fun _ => rfl) dX6_crosses_86 hf (fun v5_8 ls hl hf => ?_)
        refine r_goto C dX6_crosses_89 ?_
        exact ih s_7 v5_8 _ _ _ P (lv_sub hl [2, 3, 4, 5, 1, 0] rfl) hf
      refine r_jn (fun k79 : Unit → Option Int32 => ∀ H1 L1 ls, Hp G o s H1 L1 → lv_has ls 8 [(0, .ref (rA G 19 0)), (1, .int v1), (2, .int v2), (3, .int v3), (5, .int v5_3)] → k79 () = some r → W p l e rmX6_crosses s m args below meth c H1 L1 0 0 (Qm G (some (.int r)) o rmX6_crosses below args s) (F0 m 79 ls [])) hf ?_ (fun k79 j79 hf => ?_)
      · intro  H1 L1 ls  P hl hf
        refine r_iconst C (v := 1) (by decide) dX6_crosses_79 ?_
        refine r_goto C dX6_crosses_80 ?_
        exact j84 ((1 : Int32)) _ _ _ P (lv_sub hl [0, 1, 2, 3, 4] rfl) hf
      refine r_if_ne C dX6_crosses_40 hf (fun hf => ?_) (fun hf => ?_)
      · exact j79  _ _ _ P (lv_sub hl [2, 3, 4, 5, 7] rfl) hf
      · refine r_iload C hl 0 rfl dX6_crosses_43 ?_
        refine r_iload_n C hl 5 rfl rfl dX6_crosses_45 ?_
        refine r_jn (fun k83 : Unit → Option Int32 => ∀ H1 L1 ls, Hp G o s H1 L1 → lv_has ls 8 [(0, .ref (rA G 19 0)), (1, .int v1), (2, .int v2), (3, .int v3), (5, .int v5_3)] → k83 () = some r → W p l e rmX6_crosses s m args below meth c H1 L1 0 0 (Qm G (some (.int r)) o rmX6_crosses below args s) (F0 m 83 ls [])) hf ?_ (fun k83 j83 hf => ?_)
        · intro  H1 L1 ls  P hl hf
          refine r_iconst C (v := 0) (by decide) dX6_crosses_83 ?_
          exact j84 ((0 : Int32)) _ _ _ P (lv_sub hl [0, 1, 2, 3, 4] rfl) hf
        refine r_icmp_eq C dX6_crosses_46 hf (fun hf => ?_) (fun hf => ?_)
        · exact j83  _ _ _ P (lv_sub hl [2, 3, 4, 5, 7] rfl) hf
        · refine r_iload C hl 1 rfl dX6_crosses_49 ?_
          refine r_iload_n C hl 4 rfl rfl dX6_crosses_51 ?_
          refine r_icmp_eq C dX6_crosses_52 hf (fun hf => ?_) (fun hf => ?_)
          · exact j79  _ _ _ P (lv_sub hl [2, 3, 4, 5, 7] rfl) hf
          · refine r_iload C hl 1 rfl dX6_crosses_55 ?_
            refine r_iload_n C hl 4 rfl rfl dX6_crosses_57 ?_
            refine r_jn (fun k67 : Unit → Option Int32 => ∀ H1 L1 ls, Hp G o s H1 L1 → lv_has ls 8 [(0, .ref (rA G 19 0)), (1, .int v1), (2, .int v2), (3, .int v3), (5, .int v5_3), (6, .int r_5), (7, .int r_6)] → k67 () = some r → W p l e rmX6_crosses s m args below meth c H1 L1 0 0 (Qm G (some (.int r)) o rmX6_crosses below args s) (F0 m 67 ls [])) hf ?_ (fun k67 j67 hf => ?_)
            · intro  H1 L1 ls  P hl hf
              refine r_iload C hl 5 rfl dX6_crosses_67 ?_
              refine r_iload_n C hl 2 rfl rfl dX6_crosses_69 ?_
              refine r_icmp_le C dX6_crosses_70 hf (fun hf => ?_) (fun hf => ?_)
              · exact j83  _ _ _ P (lv_sub hl [0, 1, 2, 3, 4] rfl) hf
              · refine r_iload C hl 6 rfl dX6_crosses_73 ?_
                refine r_iload_n C hl 3 rfl rfl dX6_crosses_75 ?_
                refine r_icmp_ge C dX6_crosses_76 hf (fun hf => ?_) (fun hf => ?_)
                · exact j83  _ _ _ P (lv_sub hl [0, 1, 2, 3, 4] rfl) hf
                · exact j79  _ _ _ P (lv_sub hl [0, 1, 2, 3, 4] rfl) hf
            refine r_icmp_ge C dX6_crosses_58 hf (fun hf => ?_) (fun hf => ?_)
            · exact j67  _ _ _ P (lv_sub hl [2, 3, 4, 5, 7, 1, 0] rfl) hf
            · refine r_iload C hl 0 rfl dX6_crosses_61 ?_
              refine r_iload_n C hl 5 rfl rfl dX6_crosses_63 ?_
              refine r_icmp_gt C dX6_crosses_64 hf (fun hf => ?_) (fun hf => ?_)
              · exact j79  _ _ _ P (lv_sub hl [2, 3, 4, 5, 7] rfl) hf
              · exact j67  _ _ _ P (lv_sub hl [2, 3, 4, 5, 7, 1, 0] rfl) hf
set_option maxHeartbeats 4000000 in
set_option maxRecDepth 100000 in
theorem wX6_crosses {G : Gd} {p : Program} {l : Launch} {e : Env} {s : State} {m : MethodId} {args : Array Value} {below : List Frame} {meth : Method} {c : Code} {o : OM} {H : Heap} {L0 : List Loc} {ls : Array Slot} {r : Int32} {v1 : Int32} {v2 : Int32} {v3 : Int32} (C : Cx G RX6 cX6_crosses 8 (some .boolean) p s m args meth c)  (P : Hp G o s H L0) (hl : lv_has ls 8 [(0, .ref (rA G 19 0)), (1, .int v1), (2, .int v2), (3, .int v3)]) (hf : F_X6_crosses o v1 v2 v3 = some r) : W p l e rmX6_crosses s m args below meth c H L0 0 0 (Qm G (some (.int r)) o rmX6_crosses below args s) (F0 m 0 ls []) := by
  unfold F_X6_crosses at hf
  refine r_iconst C (v := 0) (by decide) dX6_crosses_0 ?_
  refine r_istore C [(4, .int ((0 : Int32))), (0, .ref (rA G 19 0)), (1, .int v1), (2, .int v2), (3, .int v3)] hl (by decide) rfl dX6_crosses_1 (fun ls hl => ?_)
  refine r_iconst C (v := 0) (by decide) dX6_crosses_3 ?_
  refine r_istore C [(5, .int ((0 : Int32))), (4, .int ((0 : Int32))), (0, .ref (rA G 19 0)), (1, .int v1), (2, .int v2), (3, .int v3)] hl (by decide) rfl dX6_crosses_4 (fun ls hl => ?_)
  refine r_jn (fun k92 : Int32 → Option Int32 => ∀ (v4_1 : Int32) H1 L1 ls, Hp G o s H1 L1 → lv_has ls 8 [(4, .int v4_1)] → k92 v4_1 = some r → W p l e rmX6_crosses s m args below meth c H1 L1 0 0 (Qm G (some (.int r)) o rmX6_crosses below args s) (F0 m 92 ls [])) hf ?_ (fun k92 j92 hf => ?_)
  · intro v4_1 H1 L1 ls  P hl hf
    refine r_iload C hl 0 rfl dX6_crosses_92 ?_
    exact q_zret C P (rm := rmX6_crosses) ⟨rfl, rfl⟩ dX6_crosses_94 hf
  exact lX6_crosses_6 C  j92 FU ((0 : Int32)) ((0 : Int32)) _ _ _ P (lv_sub hl [2, 3, 4, 5, 1, 0] rfl) hf
theorem ctX6_crosses (l : Launch) (G : Gd) (o : OM) (v1 : Int32) (v2 : Int32) (v3 : Int32)  {r : Int32} (hf : F_X6_crosses o v1 v2 v3 = some r) : Ct l yX6_crosses cX6_crosses 8 (some .boolean) rmX6_crosses G [.ref (rA G 19 0), .int v1, .int v2, .int v3] o (some (.int r)) o := ct_of (by decide +kernel) (Nat.le_of_ble_eq_true rfl) (fun p e s m below meth c ls C P hl => wX6_crosses C  P hl hf)
theorem cf_X6_47 : CallF false RX6 47 yX6_pointAt cX6_pointAt 5 (some .int) 2 := ⟨wd_1000, (by rw [if_neg (by decide)]; exact ⟨wd_1002, wd_28⟩), wd_71, wd_1003, by decide, by decide +kernel⟩
theorem cf_X6_50 : CallF false RX6 50 yX6_readingOf cX6_readingOf 3 (some .int) 2 := ⟨wd_1008, (by rw [if_neg (by decide)]; exact ⟨wd_1010, wd_30⟩), wd_71, wd_1011, by decide, by decide +kernel⟩
theorem cf_X6_53 : CallF false RX6 53 yX6_crosses cX6_crosses 8 (some .boolean) 3 := ⟨wd_1015, (by rw [if_neg (by decide)]; exact ⟨wd_1017, wd_31⟩), wd_71, wd_1018, by decide, by decide +kernel⟩
theorem dX6_hindrance_0 : Dc cX6_hindrance 0 (.aload_n 0) 1 1 := ⟨by decide +kernel, rfl⟩
theorem dX6_hindrance_1 : Dc cX6_hindrance 1 (.getfield 7) 3 4 := ⟨by decide +kernel, rfl⟩
theorem dX6_hindrance_4 : Dc cX6_hindrance 4 (.sipush 229) 3 7 := ⟨by decide +kernel, rfl⟩
theorem dX6_hindrance_7 : Dc cX6_hindrance 7 (.iload_n 2) 1 8 := ⟨by decide +kernel, rfl⟩
theorem dX6_hindrance_8 : Dc cX6_hindrance 8 (.iadd) 1 9 := ⟨by decide +kernel, rfl⟩
theorem dX6_hindrance_9 : Dc cX6_hindrance 9 (.iaload) 1 10 := ⟨by decide +kernel, rfl⟩
theorem dX6_hindrance_10 : Dc cX6_hindrance 10 (.istore_n 3) 1 11 := ⟨by decide +kernel, rfl⟩
theorem dX6_hindrance_11 : Dc cX6_hindrance 11 (.aload_n 0) 1 12 := ⟨by decide +kernel, rfl⟩
theorem dX6_hindrance_12 : Dc cX6_hindrance 12 (.iload_n 1) 1 13 := ⟨by decide +kernel, rfl⟩
theorem dX6_hindrance_13 : Dc cX6_hindrance 13 (.bipush 7) 2 15 := ⟨by decide +kernel, rfl⟩
theorem dX6_hindrance_15 : Dc cX6_hindrance 15 (.invokevirtual 37) 3 18 := ⟨by decide +kernel, rfl⟩
theorem dX6_hindrance_18 : Dc cX6_hindrance 18 (.bipush 10) 2 20 := ⟨by decide +kernel, rfl⟩
theorem dX6_hindrance_20 : Dj cX6_hindrance 20 (.if_icmp .ne 15) 3 23 (15) 35 := ⟨by decide +kernel, rfl, by decide⟩
theorem dX6_hindrance_23 : Dc cX6_hindrance 23 (.aload_n 0) 1 24 := ⟨by decide +kernel, rfl⟩
theorem dX6_hindrance_24 : Dc cX6_hindrance 24 (.iload_n 1) 1 25 := ⟨by decide +kernel, rfl⟩
theorem dX6_hindrance_25 : Dc cX6_hindrance 25 (.iload_n 3) 1 26 := ⟨by decide +kernel, rfl⟩
theorem dX6_hindrance_26 : Dc cX6_hindrance 26 (.invokevirtual 47) 3 29 := ⟨by decide +kernel, rfl⟩
theorem dX6_hindrance_29 : Dc cX6_hindrance 29 (.iconst (-1)) 1 30 := ⟨by decide +kernel, rfl⟩
theorem dX6_hindrance_30 : Dj cX6_hindrance 30 (.if_icmp .ne 5) 3 33 (5) 35 := ⟨by decide +kernel, rfl, by decide⟩
theorem dX6_hindrance_33 : Dc cX6_hindrance 33 (.iconst 1) 1 34 := ⟨by decide +kernel, rfl⟩
theorem dX6_hindrance_34 : Dc cX6_hindrance 34 (.ireturn) 1 35 := ⟨by decide +kernel, rfl⟩
theorem dX6_hindrance_35 : Dc cX6_hindrance 35 (.aload_n 0) 1 36 := ⟨by decide +kernel, rfl⟩
theorem dX6_hindrance_36 : Dc cX6_hindrance 36 (.iload_n 1) 1 37 := ⟨by decide +kernel, rfl⟩
theorem dX6_hindrance_37 : Dc cX6_hindrance 37 (.aload_n 0) 1 38 := ⟨by decide +kernel, rfl⟩
theorem dX6_hindrance_38 : Dc cX6_hindrance 38 (.iload_n 1) 1 39 := ⟨by decide +kernel, rfl⟩
theorem dX6_hindrance_39 : Dc cX6_hindrance 39 (.iload_n 3) 1 40 := ⟨by decide +kernel, rfl⟩
theorem dX6_hindrance_40 : Dc cX6_hindrance 40 (.invokevirtual 50) 3 43 := ⟨by decide +kernel, rfl⟩
theorem dX6_hindrance_43 : Dc cX6_hindrance 43 (.iload_n 3) 1 44 := ⟨by decide +kernel, rfl⟩
theorem dX6_hindrance_44 : Dc cX6_hindrance 44 (.invokevirtual 53) 3 47 := ⟨by decide +kernel, rfl⟩
theorem dX6_hindrance_47 : Dj cX6_hindrance 47 (.ifCond .eq 7) 3 50 (7) 54 := ⟨by decide +kernel, rfl, by decide⟩
theorem dX6_hindrance_50 : Dc cX6_hindrance 50 (.iconst 2) 1 51 := ⟨by decide +kernel, rfl⟩
theorem dX6_hindrance_51 : Dj cX6_hindrance 51 (.goto 4) 3 54 (4) 55 := ⟨by decide +kernel, rfl, by decide⟩
theorem dX6_hindrance_54 : Dc cX6_hindrance 54 (.iconst 0) 1 55 := ⟨by decide +kernel, rfl⟩
theorem dX6_hindrance_55 : Dc cX6_hindrance 55 (.ireturn) 1 56 := ⟨by decide +kernel, rfl⟩
def F_X6_hindrance (o : OM) (v1 : Int32) (v2 : Int32) : Option Int32 := grd (inB (((229 : Int32)) + v2) 244) (bd (rd o 20 0 (((229 : Int32)) + v2).toNatClampNeg) (fun v3_1 : Int32 => bq (F_X6_get o v1 ((7 : Int32))) (fun r_2 => bd (fun (_ : Unit) => bq (F_X6_readingOf o v1 v3_1) (fun r_3 => bq (F_X6_crosses o v1 r_3 v3_1) (fun r_4 => bd (fun (s_5 : Int32) => some s_5) (fun k55 => if r_4 = 0 then (k55 ((0 : Int32))) else (k55 ((2 : Int32))))))) (fun k35 => if r_2 = ((10 : Int32)) then (bq (F_X6_pointAt o v1 v3_1) (fun r_6 => if r_6 = ((-1 : Int32)) then (some ((1 : Int32))) else (k35 ()))) else (k35 ())))))
abbrev rmX6_hindrance : Room := { frames := 3, cells := 0, slots := 0, locals := 71 }
set_option maxHeartbeats 4000000 in
set_option maxRecDepth 100000 in
theorem wX6_hindrance {G : Gd} {p : Program} {l : Launch} {e : Env} {s : State} {m : MethodId} {args : Array Value} {below : List Frame} {meth : Method} {c : Code} {o : OM} {H : Heap} {L0 : List Loc} {ls : Array Slot} {r : Int32} {v1 : Int32} {v2 : Int32} (C : Cx G RX6 cX6_hindrance 4 (some .int) p s m args meth c)  (P : Hp G o s H L0) (hl : lv_has ls 4 [(0, .ref (rA G 19 0)), (1, .int v1), (2, .int v2)]) (hf : F_X6_hindrance o v1 v2 = some r) : W p l e rmX6_hindrance s m args below meth c H L0 0 0 (Qm G (some (.int r)) o rmX6_hindrance below args s) (F0 m 0 ls []) := by
  unfold F_X6_hindrance at hf
  refine r_aload_n C hl 0 rfl rfl dX6_hindrance_0 ?_
  refine gf_19_1 C P rfl wd_880 dX6_hindrance_1 ?_
  refine r_sipush C (v := 229) (by decide) dX6_hindrance_4 ?_
  refine r_iload_n C hl 2 rfl rfl dX6_hindrance_7 ?_
  refine r_iadd2 C dX6_hindrance_8 ?_
  refine r_iald C P (k := 20) (i := 0) (n := 244) (fun _ _ => rfl) rfl dX6_hindrance_9 hf (fun hf => ?_)
  refine r_bdi hf (fun v3_1 hf => ?_)
  refine r_istore_n C [(3, .int v3_1), (0, .ref (rA G 19 0)), (1, .int v1), (2, .int v2)] hl (by decide) rfl rfl dX6_hindrance_10 (fun ls hl => ?_)
  refine r_aload_n C hl 1 rfl rfl dX6_hindrance_11 ?_
  refine r_iload_n C hl 2 rfl rfl dX6_hindrance_12 ?_
  refine r_bipush C (v := 7) (by decide) dX6_hindrance_13 ?_
  refine r_qVi C P cf_X6_37 (rm := rmX6_get) 19 0 (fun _ _ => ⟨_, rfl⟩) rfl rfl rfl [.int v1, .int ((7 : Int32))] [] hf (fun _ h => ctX6_get l G o v1 ((7 : Int32)) h) ⟨rfl, rfl⟩ ⟨Nat.le_of_ble_eq_true rfl, Nat.le_of_ble_eq_true rfl⟩ ⟨Nat.le_of_ble_eq_true rfl, Nat.le_of_ble_eq_true rfl⟩ rfl rfl hl.1 (Nat.le_of_ble_eq_true rfl) dX6_hindrance_15 (fun r_2 H1 L1 P hf => ?_)
  refine r_bipush C (v := 10) (by decide) dX6_hindrance_18 ?_
  refine r_jn (fun k35 : Unit → Option Int32 => ∀ H1 L1 ls, Hp G o s H1 L1 → lv_has ls 4 [(0, .ref (rA G 19 0)), (1, .int v1), (3, .int v3_1)] → k35 () = some r → W p l e rmX6_hindrance s m args below meth c H1 L1 0 0 (Qm G (some (.int r)) o rmX6_hindrance below args s) (F0 m 35 ls [])) hf ?_ (fun k35 j35 hf => ?_)
  · intro  H1 L1 ls  P hl hf
    refine r_aload_n C hl 0 rfl rfl dX6_hindrance_35 ?_
    refine r_iload_n C hl 1 rfl rfl dX6_hindrance_36 ?_
    refine r_aload_n C hl 0 rfl rfl dX6_hindrance_37 ?_
    refine r_iload_n C hl 1 rfl rfl dX6_hindrance_38 ?_
    refine r_iload_n C hl 2 rfl rfl dX6_hindrance_39 ?_
    refine r_qVi C P cf_X6_50 (rm := rmX6_readingOf) 19 0 (fun _ _ => ⟨_, rfl⟩) rfl rfl rfl [.int v1, .int v3_1] [.int v1, .ref (rA G 19 0)] hf (fun _ h => ctX6_readingOf l G o v1 v3_1 h) ⟨rfl, rfl⟩ ⟨Nat.le_of_ble_eq_true rfl, Nat.le_of_ble_eq_true rfl⟩ ⟨Nat.le_of_ble_eq_true rfl, Nat.le_of_ble_eq_true rfl⟩ rfl rfl hl.1 (Nat.le_of_ble_eq_true rfl) dX6_hindrance_40 (fun r_3 H1 L1 P hf => ?_)
    refine r_iload_n C hl 2 rfl rfl dX6_hindrance_43 ?_
    refine r_qVi C P cf_X6_53 (rm := rmX6_crosses) 19 0 (fun _ _ => ⟨_, rfl⟩) rfl rfl rfl [.int v1, .int r_3, .int v3_1] [] hf (fun _ h => ctX6_crosses l G o v1 r_3 v3_1 h) ⟨rfl, rfl⟩ ⟨Nat.le_of_ble_eq_true rfl, Nat.le_of_ble_eq_true rfl⟩ ⟨Nat.le_of_ble_eq_true rfl, Nat.le_of_ble_eq_true rfl⟩ rfl rfl hl.1 (Nat.le_of_ble_eq_true rfl) dX6_hindrance_44 (fun r_4 H1 L1 P hf => ?_)
    refine r_jn (fun k55 : Int32 → Option Int32 => ∀ (s_5 : Int32) H1 L1 ls, Hp G o s H1 L1 → lv_has ls 4 [] → k55 s_5 = some r → W p l e rmX6_hindrance s m args below meth c H1 L1 0 0 (Qm G (some (.int r)) o rmX6_hindrance below args s) (F0 m 55 ls [.int s_5])) hf ?_ (fun k55 j55 hf => ?_)
    · intro s_5 H1 L1 ls  P hl hf
      exact q_iret C P (rm := rmX6_hindrance) ⟨rfl, rfl⟩ dX6_hindrance_55 hf
    refine r_if_eq C dX6_hindrance_47 hf (fun hf => ?_) (fun hf => ?_)
    · refine r_iconst C (v := 0) (by decide) dX6_hindrance_54 ?_
      exact j55 ((0 : Int32)) _ _ _ P (lv_sub hl [] rfl) hf
    · refine r_iconst C (v := 2) (by decide) dX6_hindrance_50 ?_
      refine r_goto C dX6_hindrance_51 ?_
      exact j55 ((2 : Int32)) _ _ _ P (lv_sub hl [] rfl) hf
  refine r_icmp_ne C dX6_hindrance_20 hf (fun hf => ?_) (fun hf => ?_)
  · exact j35  _ _ _ P (lv_sub hl [1, 2, 0] rfl) hf
  · refine r_aload_n C hl 1 rfl rfl dX6_hindrance_23 ?_
    refine r_iload_n C hl 2 rfl rfl dX6_hindrance_24 ?_
    refine r_iload_n C hl 0 rfl rfl dX6_hindrance_25 ?_
    refine r_qVi C P cf_X6_47 (rm := rmX6_pointAt) 19 0 (fun _ _ => ⟨_, rfl⟩) rfl rfl rfl [.int v1, .int v3_1] [] hf (fun _ h => ctX6_pointAt l G o v1 v3_1 h) ⟨rfl, rfl⟩ ⟨Nat.le_of_ble_eq_true rfl, Nat.le_of_ble_eq_true rfl⟩ ⟨Nat.le_of_ble_eq_true rfl, Nat.le_of_ble_eq_true rfl⟩ rfl rfl hl.1 (Nat.le_of_ble_eq_true rfl) dX6_hindrance_26 (fun r_6 H1 L1 P hf => ?_)
    refine r_iconst C (v := -1) (by decide) dX6_hindrance_29 ?_
    refine r_icmp_ne C dX6_hindrance_30 hf (fun hf => ?_) (fun hf => ?_)
    · exact j35  _ _ _ P (lv_sub hl [1, 2, 0] rfl) hf
    · refine r_iconst C (v := 1) (by decide) dX6_hindrance_33 ?_
      exact q_iret C P (rm := rmX6_hindrance) ⟨rfl, rfl⟩ dX6_hindrance_34 hf
theorem ctX6_hindrance (l : Launch) (G : Gd) (o : OM) (v1 : Int32) (v2 : Int32)  {r : Int32} (hf : F_X6_hindrance o v1 v2 = some r) : Ct l yX6_hindrance cX6_hindrance 4 (some .int) rmX6_hindrance G [.ref (rA G 19 0), .int v1, .int v2] o (some (.int r)) o := ct_of (by decide +kernel) (Nat.le_of_ble_eq_true rfl) (fun p e s m below meth c ls C P hl => wX6_hindrance C  P hl hf)
theorem dX6_drops_0 : Dc cX6_drops 0 (.aload_n 0) 1 1 := ⟨by decide +kernel, rfl⟩
theorem dX6_drops_1 : Dc cX6_drops 1 (.iload_n 1) 1 2 := ⟨by decide +kernel, rfl⟩
theorem dX6_drops_2 : Dc cX6_drops 2 (.iload_n 2) 1 3 := ⟨by decide +kernel, rfl⟩
theorem dX6_drops_3 : Dc cX6_drops 3 (.invokevirtual 47) 3 6 := ⟨by decide +kernel, rfl⟩
theorem dX6_drops_6 : Dc cX6_drops 6 (.istore_n 3) 1 7 := ⟨by decide +kernel, rfl⟩
theorem dX6_drops_7 : Dc cX6_drops 7 (.iload_n 3) 1 8 := ⟨by decide +kernel, rfl⟩
theorem dX6_drops_8 : Dc cX6_drops 8 (.iconst (-1)) 1 9 := ⟨by decide +kernel, rfl⟩
theorem dX6_drops_9 : Dj cX6_drops 9 (.if_icmp .ne 5) 3 12 (5) 14 := ⟨by decide +kernel, rfl, by decide⟩
theorem dX6_drops_12 : Dc cX6_drops 12 (.iconst 0) 1 13 := ⟨by decide +kernel, rfl⟩
theorem dX6_drops_13 : Dc cX6_drops 13 (.ireturn) 1 14 := ⟨by decide +kernel, rfl⟩
theorem dX6_drops_14 : Dc cX6_drops 14 (.iload_n 1) 1 15 := ⟨by decide +kernel, rfl⟩
theorem dX6_drops_15 : Dc cX6_drops 15 (.bipush 8) 2 17 := ⟨by decide +kernel, rfl⟩
theorem dX6_drops_17 : Dc cX6_drops 17 (.iconst 3) 1 18 := ⟨by decide +kernel, rfl⟩
theorem dX6_drops_18 : Dc cX6_drops 18 (.iload_n 3) 1 19 := ⟨by decide +kernel, rfl⟩
theorem dX6_drops_19 : Dc cX6_drops 19 (.imul) 1 20 := ⟨by decide +kernel, rfl⟩
theorem dX6_drops_20 : Dc cX6_drops 20 (.iadd) 1 21 := ⟨by decide +kernel, rfl⟩
theorem dX6_drops_21 : Dc cX6_drops 21 (.invokestatic 30) 3 24 := ⟨by decide +kernel, rfl⟩
theorem dX6_drops_24 : Dc cX6_drops 24 (.istore 4) 2 26 := ⟨by decide +kernel, rfl⟩
theorem dX6_drops_26 : Dc cX6_drops 26 (.iload 4) 2 28 := ⟨by decide +kernel, rfl⟩
theorem dX6_drops_28 : Dc cX6_drops 28 (.iload_n 1) 1 29 := ⟨by decide +kernel, rfl⟩
theorem dX6_drops_29 : Dc cX6_drops 29 (.bipush 35) 2 31 := ⟨by decide +kernel, rfl⟩
theorem dX6_drops_31 : Dc cX6_drops 31 (.invokestatic 30) 3 34 := ⟨by decide +kernel, rfl⟩
theorem dX6_drops_34 : Dj cX6_drops 34 (.if_icmp .ge 25) 3 37 (25) 59 := ⟨by decide +kernel, rfl, by decide⟩
theorem dX6_drops_37 : Dc cX6_drops 37 (.aload_n 0) 1 38 := ⟨by decide +kernel, rfl⟩
theorem dX6_drops_38 : Dc cX6_drops 38 (.getfield 7) 3 41 := ⟨by decide +kernel, rfl⟩
theorem dX6_drops_41 : Dc cX6_drops 41 (.iload 4) 2 43 := ⟨by decide +kernel, rfl⟩
theorem dX6_drops_43 : Dc cX6_drops 43 (.aload_n 0) 1 44 := ⟨by decide +kernel, rfl⟩
theorem dX6_drops_44 : Dc cX6_drops 44 (.getfield 7) 3 47 := ⟨by decide +kernel, rfl⟩
theorem dX6_drops_47 : Dc cX6_drops 47 (.iload 4) 2 49 := ⟨by decide +kernel, rfl⟩
theorem dX6_drops_49 : Dc cX6_drops 49 (.iconst 3) 1 50 := ⟨by decide +kernel, rfl⟩
theorem dX6_drops_50 : Dc cX6_drops 50 (.iadd) 1 51 := ⟨by decide +kernel, rfl⟩
theorem dX6_drops_51 : Dc cX6_drops 51 (.iaload) 1 52 := ⟨by decide +kernel, rfl⟩
theorem dX6_drops_52 : Dc cX6_drops 52 (.iastore) 1 53 := ⟨by decide +kernel, rfl⟩
theorem dX6_drops_53 : Dc cX6_drops 53 (.iinc 4 1) 3 56 := ⟨by decide +kernel, rfl⟩
theorem dX6_drops_56 : Dj cX6_drops 56 (.goto (-30)) 3 59 (-30) 26 := ⟨by decide +kernel, rfl, by decide⟩
theorem dX6_drops_59 : Dc cX6_drops 59 (.aload_n 0) 1 60 := ⟨by decide +kernel, rfl⟩
theorem dX6_drops_60 : Dc cX6_drops 60 (.getfield 7) 3 63 := ⟨by decide +kernel, rfl⟩
theorem dX6_drops_63 : Dc cX6_drops 63 (.iload_n 1) 1 64 := ⟨by decide +kernel, rfl⟩
theorem dX6_drops_64 : Dc cX6_drops 64 (.bipush 7) 2 66 := ⟨by decide +kernel, rfl⟩
theorem dX6_drops_66 : Dc cX6_drops 66 (.invokestatic 30) 3 69 := ⟨by decide +kernel, rfl⟩
theorem dX6_drops_69 : Dc cX6_drops 69 (.dup2) 1 70 := ⟨by decide +kernel, rfl⟩
theorem dX6_drops_70 : Dc cX6_drops 70 (.iaload) 1 71 := ⟨by decide +kernel, rfl⟩
theorem dX6_drops_71 : Dc cX6_drops 71 (.iconst 1) 1 72 := ⟨by decide +kernel, rfl⟩
theorem dX6_drops_72 : Dc cX6_drops 72 (.isub) 1 73 := ⟨by decide +kernel, rfl⟩
theorem dX6_drops_73 : Dc cX6_drops 73 (.iastore) 1 74 := ⟨by decide +kernel, rfl⟩
theorem dX6_drops_74 : Dc cX6_drops 74 (.iconst 1) 1 75 := ⟨by decide +kernel, rfl⟩
theorem dX6_drops_75 : Dc cX6_drops 75 (.ireturn) 1 76 := ⟨by decide +kernel, rfl⟩
def LX6_drops_26 (k59 : OM → Option (Int32 × OM)) (v1 : Int32) : Nat → OM → Int32 → Option (Int32 × OM)
  | 0 => fun _ _ => none
  | n + 1 => fun o_7 v4_6 => bq (F_X6_of o_7 v1 ((35 : Int32))) (fun r_8 => if r_8 ≤ v4_6 then (k59 o_7) else (grd (inB (v4_6 + ((3 : Int32))) 244) (grd (inB v4_6 244) (bd (wr o_7 20 0 v4_6.toNatClampNeg (rd o_7 20 0 (v4_6 + ((3 : Int32))).toNatClampNeg)) (fun o_9 : OM => bd (v4_6 + (1 : Int32)) (fun v4_10 : Int32 => (LX6_drops_26 k59 v1 n) o_9 v4_10))))))
def F_X6_drops (o : OM) (v1 : Int32) (v2 : Int32) : Option (Int32 × OM) := bq (F_X6_pointAt o v1 v2) (fun r_1 => if r_1 = ((-1 : Int32)) then (some (((0 : Int32)), o)) else (bq (F_X6_of o v1 (((8 : Int32)) + (((3 : Int32)) * r_1))) (fun r_2 => bd (fun (o_3 : OM) => bq (F_X6_of o_3 v1 ((7 : Int32))) (fun r_4 => grd (inB r_4 244) (grd (inB r_4 244) (bd (wr o_3 20 0 r_4.toNatClampNeg ((rd o_3 20 0 r_4.toNatClampNeg) - ((1 : Int32)))) (fun o_5 : OM => some (((1 : Int32)), o_5)))))) (fun k59 => LX6_drops_26 k59 v1 FU o r_2))))
abbrev rmX6_drops : Room := { frames := 3, cells := 0, slots := 0, locals := 68 }
set_option maxHeartbeats 4000000 in
set_option maxRecDepth 100000 in
theorem lX6_drops_26 {G : Gd} {p : Program} {l : Launch} {e : Env} {s : State} {m : MethodId} {args : Array Value} {below : List Frame} {meth : Method} {c : Code} {r : Int32} {o9 : OM} {v1 : Int32} (C : Cx G RX6 cX6_drops 5 (some .int) p s m args meth c)  {k59 : OM → Option (Int32 × OM)} (j59 : ∀ (o_3 : OM) H1 L1 ls, Hp G o_3 s H1 L1 → lv_has ls 5 [(0, .ref (rA G 19 0)), (1, .int v1)] → k59 o_3 = some (r, o9) → W p l e rmX6_drops s m args below meth c H1 L1 0 0 (Qm G (some (.int r)) o9 rmX6_drops below args s) (F0 m 59 ls [])) : ∀ (n : Nat) (o_7 : OM) (v4_6 : Int32) H1 L1 ls, Hp G o_7 s H1 L1 → lv_has ls 5 [(0, .ref (rA G 19 0)), (1, .int v1), (4, .int v4_6)] → LX6_drops_26 k59 v1 n o_7 v4_6 = some (r, o9) → W p l e rmX6_drops s m args below meth c H1 L1 0 0 (Qm G (some (.int r)) o9 rmX6_drops below args s) (F0 m 26 ls []) := by
  intro n
  induction n with
  | zero =>
    intro o_7 v4_6 H1 L1 ls P hl hf
    exact nomatch hf
  | succ n ih =>
    intro o_7 v4_6 H1 L1 ls P hl hf
    rw [LX6_drops_26.eq_2] at hf
    refine r_iload C hl 2 rfl dX6_drops_26 ?_
    refine r_iload_n C hl 1 rfl rfl dX6_drops_28 ?_
    refine r_bipush C (v := 35) (by decide) dX6_drops_29 ?_
    refine r_qSi C P cf_X6_30 (rm := rmX6_of) [.int v1, .int ((35 : Int32))] [.int v4_6] hf (fun _ h => ctX6_of l G o_7 v1 ((35 : Int32)) h) ⟨rfl, rfl⟩ ⟨Nat.le_of_ble_eq_true rfl, Nat.le_of_ble_eq_true rfl⟩ ⟨Nat.le_of_ble_eq_true rfl, Nat.le_of_ble_eq_true rfl⟩ rfl rfl hl.1 (Nat.le_of_ble_eq_true rfl) dX6_drops_31 (fun r_8 H1 L1 P hf => ?_)
    refine r_icmp_ge C dX6_drops_34 hf (fun hf => ?_) (fun hf => ?_)
    · exact j59 o_7 _ _ _ P (lv_sub hl [0, 1] rfl) hf
    · refine r_aload_n C hl 0 rfl rfl dX6_drops_37 ?_
      refine gf_19_1 C P rfl wd_880 dX6_drops_38 ?_
      refine r_iload C hl 2 rfl dX6_drops_41 ?_
      refine r_aload_n C hl 0 rfl rfl dX6_drops_43 ?_
      refine gf_19_1 C P rfl wd_880 dX6_drops_44 ?_
      refine r_iload C hl 2 rfl dX6_drops_47 ?_
      refine r_iconst C (v := 3) (by decide) dX6_drops_49 ?_
      refine r_iadd2 C dX6_drops_50 ?_
      refine r_iald C P (k := 20) (i := 0) (n := 244) (fun _ _ => rfl) rfl dX6_drops_51 hf (fun hf => ?_)
      refine r_iast C P (k := 20) (i := 0) (n := 244) (fun _ _ => rfl) rfl dX6_drops_52 hf (fun o_9 H1 L1 P hf => ?_)
      refine r_iinc C (fun v4_10 => [(4, .int v4_10), (0, .ref (rA G 19 0)), (1, .int v1)]) (w := 1) 2 hl rfl (by decide) (by decide) (fun _ => rfl) dX6_drops_53 hf (fun v4_10 ls hl hf => ?_)
      refine r_goto C dX6_drops_56 ?_
      exact ih o_9 v4_10 _ _ _ P (lv_sub hl [1, 2, 0] rfl) hf
set_option maxHeartbeats 4000000 in
set_option maxRecDepth 100000 in
theorem wX6_drops {G : Gd} {p : Program} {l : Launch} {e : Env} {s : State} {m : MethodId} {args : Array Value} {below : List Frame} {meth : Method} {c : Code} {o : OM} {H : Heap} {L0 : List Loc} {ls : Array Slot} {r : Int32} {o9 : OM} {v1 : Int32} {v2 : Int32} (C : Cx G RX6 cX6_drops 5 (some .int) p s m args meth c)  (P : Hp G o s H L0) (hl : lv_has ls 5 [(0, .ref (rA G 19 0)), (1, .int v1), (2, .int v2)]) (hf : F_X6_drops o v1 v2 = some (r, o9)) : W p l e rmX6_drops s m args below meth c H L0 0 0 (Qm G (some (.int r)) o9 rmX6_drops below args s) (F0 m 0 ls []) := by
  unfold F_X6_drops at hf
  refine r_aload_n C hl 0 rfl rfl dX6_drops_0 ?_
  refine r_iload_n C hl 1 rfl rfl dX6_drops_1 ?_
  refine r_iload_n C hl 2 rfl rfl dX6_drops_2 ?_
  refine r_qVi C P cf_X6_47 (rm := rmX6_pointAt) 19 0 (fun _ _ => ⟨_, rfl⟩) rfl rfl rfl [.int v1, .int v2] [] hf (fun _ h => ctX6_pointAt l G o v1 v2 h) ⟨rfl, rfl⟩ ⟨Nat.le_of_ble_eq_true rfl, Nat.le_of_ble_eq_true rfl⟩ ⟨Nat.le_of_ble_eq_true rfl, Nat.le_of_ble_eq_true rfl⟩ rfl rfl hl.1 (Nat.le_of_ble_eq_true rfl) dX6_drops_3 (fun r_1 H1 L1 P hf => ?_)
  refine r_istore_n C [(3, .int r_1), (0, .ref (rA G 19 0)), (1, .int v1), (2, .int v2)] hl (by decide) rfl rfl dX6_drops_6 (fun ls hl => ?_)
  refine r_iload_n C hl 0 rfl rfl dX6_drops_7 ?_
  refine r_iconst C (v := -1) (by decide) dX6_drops_8 ?_
  refine r_icmp_ne C dX6_drops_9 hf (fun hf => ?_) (fun hf => ?_)
  · refine r_iload_n C hl 2 rfl rfl dX6_drops_14 ?_
    refine r_bipush C (v := 8) (by decide) dX6_drops_15 ?_
    refine r_iconst C (v := 3) (by decide) dX6_drops_17 ?_
    refine r_iload_n C hl 0 rfl rfl dX6_drops_18 ?_
    refine r_imul C dX6_drops_19 ?_
    refine r_iadd2 C dX6_drops_20 ?_
    refine r_qSi C P cf_X6_30 (rm := rmX6_of) [.int v1, .int (((8 : Int32)) + (((3 : Int32)) * r_1))] [] hf (fun _ h => ctX6_of l G o v1 (((8 : Int32)) + (((3 : Int32)) * r_1)) h) ⟨rfl, rfl⟩ ⟨Nat.le_of_ble_eq_true rfl, Nat.le_of_ble_eq_true rfl⟩ ⟨Nat.le_of_ble_eq_true rfl, Nat.le_of_ble_eq_true rfl⟩ rfl rfl hl.1 (Nat.le_of_ble_eq_true rfl) dX6_drops_21 (fun r_2 H1 L1 P hf => ?_)
    refine r_istore C [(4, .int r_2), (3, .int r_1), (0, .ref (rA G 19 0)), (1, .int v1), (2, .int v2)] hl (by decide) rfl dX6_drops_24 (fun ls hl => ?_)
    refine r_jn (fun k59 : OM → Option (Int32 × OM) => ∀ (o_3 : OM) H1 L1 ls, Hp G o_3 s H1 L1 → lv_has ls 5 [(0, .ref (rA G 19 0)), (1, .int v1)] → k59 o_3 = some (r, o9) → W p l e rmX6_drops s m args below meth c H1 L1 0 0 (Qm G (some (.int r)) o9 rmX6_drops below args s) (F0 m 59 ls [])) hf ?_ (fun k59 j59 hf => ?_)
    · intro o_3 H1 L1 ls  P hl hf
      refine r_aload_n C hl 0 rfl rfl dX6_drops_59 ?_
      refine gf_19_1 C P rfl wd_880 dX6_drops_60 ?_
      refine r_iload_n C hl 1 rfl rfl dX6_drops_63 ?_
      refine r_bipush C (v := 7) (by decide) dX6_drops_64 ?_
      refine r_qSi C P cf_X6_30 (rm := rmX6_of) [.int v1, .int ((7 : Int32))] [.ref (rA G 20 0)] hf (fun _ h => ctX6_of l G o_3 v1 ((7 : Int32)) h) ⟨rfl, rfl⟩ ⟨Nat.le_of_ble_eq_true rfl, Nat.le_of_ble_eq_true rfl⟩ ⟨Nat.le_of_ble_eq_true rfl, Nat.le_of_ble_eq_true rfl⟩ rfl rfl hl.1 (Nat.le_of_ble_eq_true rfl) dX6_drops_66 (fun r_4 H1 L1 P hf => ?_)
      refine r_dup2 C rfl rfl dX6_drops_69 ?_
      refine r_iald C P (k := 20) (i := 0) (n := 244) (fun _ _ => rfl) rfl dX6_drops_70 hf (fun hf => ?_)
      refine r_iconst C (v := 1) (by decide) dX6_drops_71 ?_
      refine r_isub C dX6_drops_72 ?_
      refine r_iast C P (k := 20) (i := 0) (n := 244) (fun _ _ => rfl) rfl dX6_drops_73 hf (fun o_5 H1 L1 P hf => ?_)
      refine r_iconst C (v := 1) (by decide) dX6_drops_74 ?_
      exact r_iret C P (rm := rmX6_drops) ⟨rfl, rfl⟩ dX6_drops_75 hf
    exact lX6_drops_26 C  j59 FU o r_2 _ _ _ P (lv_sub hl [2, 3, 0] rfl) hf
  · refine r_iconst C (v := 0) (by decide) dX6_drops_12 ?_
    exact r_iret C P (rm := rmX6_drops) ⟨rfl, rfl⟩ dX6_drops_13 hf
theorem ctX6_drops (l : Launch) (G : Gd) (o : OM) (v1 : Int32) (v2 : Int32)  {r : Int32} {o9 : OM} (hf : F_X6_drops o v1 v2 = some (r, o9)) : Ct l yX6_drops cX6_drops 5 (some .int) rmX6_drops G [.ref (rA G 19 0), .int v1, .int v2] o (some (.int r)) o9 := ct_of (by decide +kernel) (Nat.le_of_ble_eq_true rfl) (fun p e s m below meth c ls C P hl => wX6_drops C  P hl hf)
theorem cf_X6_56 : CallF false RX6 56 yX6_drops cX6_drops 5 (some .int) 2 := ⟨wd_1023, (by rw [if_neg (by decide)]; exact ⟨wd_1025, wd_33⟩), wd_71, wd_1026, by decide, by decide +kernel⟩
theorem dX6_measures_0 : Dc cX6_measures 0 (.aload_n 0) 1 1 := ⟨by decide +kernel, rfl⟩
theorem dX6_measures_1 : Dc cX6_measures 1 (.getfield 7) 3 4 := ⟨by decide +kernel, rfl⟩
theorem dX6_measures_4 : Dc cX6_measures 4 (.sipush 229) 3 7 := ⟨by decide +kernel, rfl⟩
theorem dX6_measures_7 : Dc cX6_measures 7 (.iload_n 2) 1 8 := ⟨by decide +kernel, rfl⟩
theorem dX6_measures_8 : Dc cX6_measures 8 (.iadd) 1 9 := ⟨by decide +kernel, rfl⟩
theorem dX6_measures_9 : Dc cX6_measures 9 (.iaload) 1 10 := ⟨by decide +kernel, rfl⟩
theorem dX6_measures_10 : Dc cX6_measures 10 (.istore_n 3) 1 11 := ⟨by decide +kernel, rfl⟩
theorem dX6_measures_11 : Dc cX6_measures 11 (.aload_n 0) 1 12 := ⟨by decide +kernel, rfl⟩
theorem dX6_measures_12 : Dc cX6_measures 12 (.iload_n 1) 1 13 := ⟨by decide +kernel, rfl⟩
theorem dX6_measures_13 : Dc cX6_measures 13 (.iload_n 3) 1 14 := ⟨by decide +kernel, rfl⟩
theorem dX6_measures_14 : Dc cX6_measures 14 (.invokevirtual 56) 3 17 := ⟨by decide +kernel, rfl⟩
theorem dX6_measures_17 : Dc cX6_measures 17 (.istore 4) 2 19 := ⟨by decide +kernel, rfl⟩
theorem dX6_measures_19 : Dc cX6_measures 19 (.iload_n 1) 1 20 := ⟨by decide +kernel, rfl⟩
theorem dX6_measures_20 : Dc cX6_measures 20 (.bipush 8) 2 22 := ⟨by decide +kernel, rfl⟩
theorem dX6_measures_22 : Dc cX6_measures 22 (.iconst 3) 1 23 := ⟨by decide +kernel, rfl⟩
theorem dX6_measures_23 : Dc cX6_measures 23 (.aload_n 0) 1 24 := ⟨by decide +kernel, rfl⟩
theorem dX6_measures_24 : Dc cX6_measures 24 (.iload_n 1) 1 25 := ⟨by decide +kernel, rfl⟩
theorem dX6_measures_25 : Dc cX6_measures 25 (.bipush 7) 2 27 := ⟨by decide +kernel, rfl⟩
theorem dX6_measures_27 : Dc cX6_measures 27 (.invokevirtual 37) 3 30 := ⟨by decide +kernel, rfl⟩
theorem dX6_measures_30 : Dc cX6_measures 30 (.imul) 1 31 := ⟨by decide +kernel, rfl⟩
theorem dX6_measures_31 : Dc cX6_measures 31 (.iadd) 1 32 := ⟨by decide +kernel, rfl⟩
theorem dX6_measures_32 : Dc cX6_measures 32 (.invokestatic 30) 3 35 := ⟨by decide +kernel, rfl⟩
theorem dX6_measures_35 : Dc cX6_measures 35 (.istore 5) 2 37 := ⟨by decide +kernel, rfl⟩
theorem dX6_measures_37 : Dc cX6_measures 37 (.aload_n 0) 1 38 := ⟨by decide +kernel, rfl⟩
theorem dX6_measures_38 : Dc cX6_measures 38 (.getfield 7) 3 41 := ⟨by decide +kernel, rfl⟩
theorem dX6_measures_41 : Dc cX6_measures 41 (.iload 5) 2 43 := ⟨by decide +kernel, rfl⟩
theorem dX6_measures_43 : Dc cX6_measures 43 (.aload_n 0) 1 44 := ⟨by decide +kernel, rfl⟩
theorem dX6_measures_44 : Dc cX6_measures 44 (.iload_n 1) 1 45 := ⟨by decide +kernel, rfl⟩
theorem dX6_measures_45 : Dc cX6_measures 45 (.iload_n 3) 1 46 := ⟨by decide +kernel, rfl⟩
theorem dX6_measures_46 : Dc cX6_measures 46 (.invokevirtual 50) 3 49 := ⟨by decide +kernel, rfl⟩
theorem dX6_measures_49 : Dc cX6_measures 49 (.iastore) 1 50 := ⟨by decide +kernel, rfl⟩
theorem dX6_measures_50 : Dc cX6_measures 50 (.aload_n 0) 1 51 := ⟨by decide +kernel, rfl⟩
theorem dX6_measures_51 : Dc cX6_measures 51 (.getfield 7) 3 54 := ⟨by decide +kernel, rfl⟩
theorem dX6_measures_54 : Dc cX6_measures 54 (.iload 5) 2 56 := ⟨by decide +kernel, rfl⟩
theorem dX6_measures_56 : Dc cX6_measures 56 (.iconst 1) 1 57 := ⟨by decide +kernel, rfl⟩
theorem dX6_measures_57 : Dc cX6_measures 57 (.iadd) 1 58 := ⟨by decide +kernel, rfl⟩
theorem dX6_measures_58 : Dc cX6_measures 58 (.iload_n 3) 1 59 := ⟨by decide +kernel, rfl⟩
theorem dX6_measures_59 : Dc cX6_measures 59 (.iastore) 1 60 := ⟨by decide +kernel, rfl⟩
theorem dX6_measures_60 : Dc cX6_measures 60 (.aload_n 0) 1 61 := ⟨by decide +kernel, rfl⟩
theorem dX6_measures_61 : Dc cX6_measures 61 (.getfield 7) 3 64 := ⟨by decide +kernel, rfl⟩
theorem dX6_measures_64 : Dc cX6_measures 64 (.iload 5) 2 66 := ⟨by decide +kernel, rfl⟩
theorem dX6_measures_66 : Dc cX6_measures 66 (.iconst 2) 1 67 := ⟨by decide +kernel, rfl⟩
theorem dX6_measures_67 : Dc cX6_measures 67 (.iadd) 1 68 := ⟨by decide +kernel, rfl⟩
theorem dX6_measures_68 : Dc cX6_measures 68 (.aload_n 0) 1 69 := ⟨by decide +kernel, rfl⟩
theorem dX6_measures_69 : Dc cX6_measures 69 (.getfield 7) 3 72 := ⟨by decide +kernel, rfl⟩
theorem dX6_measures_72 : Dc cX6_measures 72 (.sipush 233) 3 75 := ⟨by decide +kernel, rfl⟩
theorem dX6_measures_75 : Dc cX6_measures 75 (.iaload) 1 76 := ⟨by decide +kernel, rfl⟩
theorem dX6_measures_76 : Dc cX6_measures 76 (.iastore) 1 77 := ⟨by decide +kernel, rfl⟩
theorem dX6_measures_77 : Dc cX6_measures 77 (.aload_n 0) 1 78 := ⟨by decide +kernel, rfl⟩
theorem dX6_measures_78 : Dc cX6_measures 78 (.getfield 7) 3 81 := ⟨by decide +kernel, rfl⟩
theorem dX6_measures_81 : Dc cX6_measures 81 (.iload_n 1) 1 82 := ⟨by decide +kernel, rfl⟩
theorem dX6_measures_82 : Dc cX6_measures 82 (.bipush 7) 2 84 := ⟨by decide +kernel, rfl⟩
theorem dX6_measures_84 : Dc cX6_measures 84 (.invokestatic 30) 3 87 := ⟨by decide +kernel, rfl⟩
theorem dX6_measures_87 : Dc cX6_measures 87 (.dup2) 1 88 := ⟨by decide +kernel, rfl⟩
theorem dX6_measures_88 : Dc cX6_measures 88 (.iaload) 1 89 := ⟨by decide +kernel, rfl⟩
theorem dX6_measures_89 : Dc cX6_measures 89 (.iconst 1) 1 90 := ⟨by decide +kernel, rfl⟩
theorem dX6_measures_90 : Dc cX6_measures 90 (.iadd) 1 91 := ⟨by decide +kernel, rfl⟩
theorem dX6_measures_91 : Dc cX6_measures 91 (.iastore) 1 92 := ⟨by decide +kernel, rfl⟩
theorem dX6_measures_92 : Dc cX6_measures 92 (.aload_n 0) 1 93 := ⟨by decide +kernel, rfl⟩
theorem dX6_measures_93 : Dc cX6_measures 93 (.iload_n 1) 1 94 := ⟨by decide +kernel, rfl⟩
theorem dX6_measures_94 : Dc cX6_measures 94 (.bipush 7) 2 96 := ⟨by decide +kernel, rfl⟩
theorem dX6_measures_96 : Dc cX6_measures 96 (.invokevirtual 37) 3 99 := ⟨by decide +kernel, rfl⟩
theorem dX6_measures_99 : Dc cX6_measures 99 (.ireturn) 1 100 := ⟨by decide +kernel, rfl⟩
def F_X6_measures (o : OM) (v1 : Int32) (v2 : Int32) : Option (Int32 × OM) := grd (inB (((229 : Int32)) + v2) 244) (bd (rd o 20 0 (((229 : Int32)) + v2).toNatClampNeg) (fun v3_1 : Int32 => bn (F_X6_drops o v1 v3_1) (fun r_2 o_3 => bq (F_X6_get o_3 v1 ((7 : Int32))) (fun r_4 => bq (F_X6_of o_3 v1 (((8 : Int32)) + (((3 : Int32)) * r_4))) (fun r_5 => bq (F_X6_readingOf o_3 v1 v3_1) (fun r_6 => grd (inB r_5 244) (bd (wr o_3 20 0 r_5.toNatClampNeg r_6) (fun o_7 : OM => grd (inB (r_5 + ((1 : Int32))) 244) (bd (wr o_7 20 0 (r_5 + ((1 : Int32))).toNatClampNeg v3_1) (fun o_8 : OM => grd (inB ((233 : Int32)) 244) (grd (inB (r_5 + ((2 : Int32))) 244) (bd (wr o_8 20 0 (r_5 + ((2 : Int32))).toNatClampNeg (rd o_8 20 0 ((233 : Int32)).toNatClampNeg)) (fun o_9 : OM => bq (F_X6_of o_9 v1 ((7 : Int32))) (fun r_10 => grd (inB r_10 244) (grd (inB r_10 244) (bd (wr o_9 20 0 r_10.toNatClampNeg ((rd o_9 20 0 r_10.toNatClampNeg) + ((1 : Int32)))) (fun o_11 : OM => bq (F_X6_get o_11 v1 ((7 : Int32))) (fun r_12 => some (r_12, o_11)))))))))))))))))))
abbrev rmX6_measures : Room := { frames := 4, cells := 0, slots := 0, locals := 92 }
set_option maxHeartbeats 4000000 in
set_option maxRecDepth 100000 in
theorem wX6_measures {G : Gd} {p : Program} {l : Launch} {e : Env} {s : State} {m : MethodId} {args : Array Value} {below : List Frame} {meth : Method} {c : Code} {o : OM} {H : Heap} {L0 : List Loc} {ls : Array Slot} {r : Int32} {o9 : OM} {v1 : Int32} {v2 : Int32} (C : Cx G RX6 cX6_measures 6 (some .int) p s m args meth c)  (P : Hp G o s H L0) (hl : lv_has ls 6 [(0, .ref (rA G 19 0)), (1, .int v1), (2, .int v2)]) (hf : F_X6_measures o v1 v2 = some (r, o9)) : W p l e rmX6_measures s m args below meth c H L0 0 0 (Qm G (some (.int r)) o9 rmX6_measures below args s) (F0 m 0 ls []) := by
  unfold F_X6_measures at hf
  refine r_aload_n C hl 0 rfl rfl dX6_measures_0 ?_
  refine gf_19_1 C P rfl wd_880 dX6_measures_1 ?_
  refine r_sipush C (v := 229) (by decide) dX6_measures_4 ?_
  refine r_iload_n C hl 2 rfl rfl dX6_measures_7 ?_
  refine r_iadd2 C dX6_measures_8 ?_
  refine r_iald C P (k := 20) (i := 0) (n := 244) (fun _ _ => rfl) rfl dX6_measures_9 hf (fun hf => ?_)
  refine r_bdi hf (fun v3_1 hf => ?_)
  refine r_istore_n C [(3, .int v3_1), (0, .ref (rA G 19 0)), (1, .int v1), (2, .int v2)] hl (by decide) rfl rfl dX6_measures_10 (fun ls hl => ?_)
  refine r_aload_n C hl 1 rfl rfl dX6_measures_11 ?_
  refine r_iload_n C hl 2 rfl rfl dX6_measures_12 ?_
  refine r_iload_n C hl 0 rfl rfl dX6_measures_13 ?_
  refine r_cVi C P cf_X6_56 (rm := rmX6_drops) 19 0 (fun _ _ => ⟨_, rfl⟩) rfl rfl rfl [.int v1, .int v3_1] [] hf (fun _ _ h => ctX6_drops l G o v1 v3_1 h) ⟨rfl, rfl⟩ ⟨Nat.le_of_ble_eq_true rfl, Nat.le_of_ble_eq_true rfl⟩ ⟨Nat.le_of_ble_eq_true rfl, Nat.le_of_ble_eq_true rfl⟩ rfl rfl hl.1 (Nat.le_of_ble_eq_true rfl) dX6_measures_14 (fun r_2 o_3 H1 L1 P hf => ?_)
  refine r_istore C [(4, .int r_2), (3, .int v3_1), (0, .ref (rA G 19 0)), (1, .int v1), (2, .int v2)] hl (by decide) rfl dX6_measures_17 (fun ls hl => ?_)
  refine r_iload_n C hl 3 rfl rfl dX6_measures_19 ?_
  refine r_bipush C (v := 8) (by decide) dX6_measures_20 ?_
  refine r_iconst C (v := 3) (by decide) dX6_measures_22 ?_
  refine r_aload_n C hl 2 rfl rfl dX6_measures_23 ?_
  refine r_iload_n C hl 3 rfl rfl dX6_measures_24 ?_
  refine r_bipush C (v := 7) (by decide) dX6_measures_25 ?_
  refine r_qVi C P cf_X6_37 (rm := rmX6_get) 19 0 (fun _ _ => ⟨_, rfl⟩) rfl rfl rfl [.int v1, .int ((7 : Int32))] [.int ((3 : Int32)), .int ((8 : Int32)), .int v1] hf (fun _ h => ctX6_get l G o_3 v1 ((7 : Int32)) h) ⟨rfl, rfl⟩ ⟨Nat.le_of_ble_eq_true rfl, Nat.le_of_ble_eq_true rfl⟩ ⟨Nat.le_of_ble_eq_true rfl, Nat.le_of_ble_eq_true rfl⟩ rfl rfl hl.1 (Nat.le_of_ble_eq_true rfl) dX6_measures_27 (fun r_4 H1 L1 P hf => ?_)
  refine r_imul C dX6_measures_30 ?_
  refine r_iadd2 C dX6_measures_31 ?_
  refine r_qSi C P cf_X6_30 (rm := rmX6_of) [.int v1, .int (((8 : Int32)) + (((3 : Int32)) * r_4))] [] hf (fun _ h => ctX6_of l G o_3 v1 (((8 : Int32)) + (((3 : Int32)) * r_4)) h) ⟨rfl, rfl⟩ ⟨Nat.le_of_ble_eq_true rfl, Nat.le_of_ble_eq_true rfl⟩ ⟨Nat.le_of_ble_eq_true rfl, Nat.le_of_ble_eq_true rfl⟩ rfl rfl hl.1 (Nat.le_of_ble_eq_true rfl) dX6_measures_32 (fun r_5 H1 L1 P hf => ?_)
  refine r_istore C [(5, .int r_5), (4, .int r_2), (3, .int v3_1), (0, .ref (rA G 19 0)), (1, .int v1), (2, .int v2)] hl (by decide) rfl dX6_measures_35 (fun ls hl => ?_)
  refine r_aload_n C hl 3 rfl rfl dX6_measures_37 ?_
  refine gf_19_1 C P rfl wd_880 dX6_measures_38 ?_
  refine r_iload C hl 0 rfl dX6_measures_41 ?_
  refine r_aload_n C hl 3 rfl rfl dX6_measures_43 ?_
  refine r_iload_n C hl 4 rfl rfl dX6_measures_44 ?_
  refine r_iload_n C hl 2 rfl rfl dX6_measures_45 ?_
  refine r_qVi C P cf_X6_50 (rm := rmX6_readingOf) 19 0 (fun _ _ => ⟨_, rfl⟩) rfl rfl rfl [.int v1, .int v3_1] [.int r_5, .ref (rA G 20 0)] hf (fun _ h => ctX6_readingOf l G o_3 v1 v3_1 h) ⟨rfl, rfl⟩ ⟨Nat.le_of_ble_eq_true rfl, Nat.le_of_ble_eq_true rfl⟩ ⟨Nat.le_of_ble_eq_true rfl, Nat.le_of_ble_eq_true rfl⟩ rfl rfl hl.1 (Nat.le_of_ble_eq_true rfl) dX6_measures_46 (fun r_6 H1 L1 P hf => ?_)
  refine r_iast C P (k := 20) (i := 0) (n := 244) (fun _ _ => rfl) rfl dX6_measures_49 hf (fun o_7 H1 L1 P hf => ?_)
  refine r_aload_n C hl 3 rfl rfl dX6_measures_50 ?_
  refine gf_19_1 C P rfl wd_880 dX6_measures_51 ?_
  refine r_iload C hl 0 rfl dX6_measures_54 ?_
  refine r_iconst C (v := 1) (by decide) dX6_measures_56 ?_
  refine r_iadd2 C dX6_measures_57 ?_
  refine r_iload_n C hl 2 rfl rfl dX6_measures_58 ?_
  refine r_iast C P (k := 20) (i := 0) (n := 244) (fun _ _ => rfl) rfl dX6_measures_59 hf (fun o_8 H1 L1 P hf => ?_)
  refine r_aload_n C hl 3 rfl rfl dX6_measures_60 ?_
  refine gf_19_1 C P rfl wd_880 dX6_measures_61 ?_
  refine r_iload C hl 0 rfl dX6_measures_64 ?_
  refine r_iconst C (v := 2) (by decide) dX6_measures_66 ?_
  refine r_iadd2 C dX6_measures_67 ?_
  refine r_aload_n C hl 3 rfl rfl dX6_measures_68 ?_
  refine gf_19_1 C P rfl wd_880 dX6_measures_69 ?_
  refine r_sipush C (v := 233) (by decide) dX6_measures_72 ?_
  refine r_iald C P (k := 20) (i := 0) (n := 244) (fun _ _ => rfl) rfl dX6_measures_75 hf (fun hf => ?_)
  refine r_iast C P (k := 20) (i := 0) (n := 244) (fun _ _ => rfl) rfl dX6_measures_76 hf (fun o_9 H1 L1 P hf => ?_)
  refine r_aload_n C hl 3 rfl rfl dX6_measures_77 ?_
  refine gf_19_1 C P rfl wd_880 dX6_measures_78 ?_
  refine r_iload_n C hl 4 rfl rfl dX6_measures_81 ?_
  refine r_bipush C (v := 7) (by decide) dX6_measures_82 ?_
  refine r_qSi C P cf_X6_30 (rm := rmX6_of) [.int v1, .int ((7 : Int32))] [.ref (rA G 20 0)] hf (fun _ h => ctX6_of l G o_9 v1 ((7 : Int32)) h) ⟨rfl, rfl⟩ ⟨Nat.le_of_ble_eq_true rfl, Nat.le_of_ble_eq_true rfl⟩ ⟨Nat.le_of_ble_eq_true rfl, Nat.le_of_ble_eq_true rfl⟩ rfl rfl hl.1 (Nat.le_of_ble_eq_true rfl) dX6_measures_84 (fun r_10 H1 L1 P hf => ?_)
  refine r_dup2 C rfl rfl dX6_measures_87 ?_
  refine r_iald C P (k := 20) (i := 0) (n := 244) (fun _ _ => rfl) rfl dX6_measures_88 hf (fun hf => ?_)
  refine r_iconst C (v := 1) (by decide) dX6_measures_89 ?_
  refine r_iadd2 C dX6_measures_90 ?_
  refine r_iast C P (k := 20) (i := 0) (n := 244) (fun _ _ => rfl) rfl dX6_measures_91 hf (fun o_11 H1 L1 P hf => ?_)
  refine r_aload_n C hl 3 rfl rfl dX6_measures_92 ?_
  refine r_iload_n C hl 4 rfl rfl dX6_measures_93 ?_
  refine r_bipush C (v := 7) (by decide) dX6_measures_94 ?_
  refine r_qVi C P cf_X6_37 (rm := rmX6_get) 19 0 (fun _ _ => ⟨_, rfl⟩) rfl rfl rfl [.int v1, .int ((7 : Int32))] [] hf (fun _ h => ctX6_get l G o_11 v1 ((7 : Int32)) h) ⟨rfl, rfl⟩ ⟨Nat.le_of_ble_eq_true rfl, Nat.le_of_ble_eq_true rfl⟩ ⟨Nat.le_of_ble_eq_true rfl, Nat.le_of_ble_eq_true rfl⟩ rfl rfl hl.1 (Nat.le_of_ble_eq_true rfl) dX6_measures_96 (fun r_12 H1 L1 P hf => ?_)
  exact r_iret C P (rm := rmX6_measures) ⟨rfl, rfl⟩ dX6_measures_99 hf
theorem ctX6_measures (l : Launch) (G : Gd) (o : OM) (v1 : Int32) (v2 : Int32)  {r : Int32} {o9 : OM} (hf : F_X6_measures o v1 v2 = some (r, o9)) : Ct l yX6_measures cX6_measures 6 (some .int) rmX6_measures G [.ref (rA G 19 0), .int v1, .int v2] o (some (.int r)) o9 := ct_of (by decide +kernel) (Nat.le_of_ble_eq_true rfl) (fun p e s m below meth c ls C P hl => wX6_measures C  P hl hf)
theorem dX6_depthOf_0 : Dc cX6_depthOf 0 (.aload_n 0) 1 1 := ⟨by decide +kernel, rfl⟩
theorem dX6_depthOf_1 : Dc cX6_depthOf 1 (.iload_n 1) 1 2 := ⟨by decide +kernel, rfl⟩
theorem dX6_depthOf_2 : Dc cX6_depthOf 2 (.iload_n 2) 1 3 := ⟨by decide +kernel, rfl⟩
theorem dX6_depthOf_3 : Dc cX6_depthOf 3 (.iconst 0) 1 4 := ⟨by decide +kernel, rfl⟩
theorem dX6_depthOf_4 : Dc cX6_depthOf 4 (.invokevirtual 43) 3 7 := ⟨by decide +kernel, rfl⟩
theorem dX6_depthOf_7 : Dc cX6_depthOf 7 (.istore_n 3) 1 8 := ⟨by decide +kernel, rfl⟩
theorem dX6_depthOf_8 : Dc cX6_depthOf 8 (.ldc 59) 2 10 := ⟨by decide +kernel, rfl⟩
theorem dX6_depthOf_10 : Dc cX6_depthOf 10 (.istore 4) 2 12 := ⟨by decide +kernel, rfl⟩
theorem dX6_depthOf_12 : Dc cX6_depthOf 12 (.ldc 60) 2 14 := ⟨by decide +kernel, rfl⟩
theorem dX6_depthOf_14 : Dc cX6_depthOf 14 (.istore 5) 2 16 := ⟨by decide +kernel, rfl⟩
theorem dX6_depthOf_16 : Dc cX6_depthOf 16 (.iconst 1) 1 17 := ⟨by decide +kernel, rfl⟩
theorem dX6_depthOf_17 : Dc cX6_depthOf 17 (.istore 6) 2 19 := ⟨by decide +kernel, rfl⟩
theorem dX6_depthOf_19 : Dc cX6_depthOf 19 (.iconst 0) 1 20 := ⟨by decide +kernel, rfl⟩
theorem dX6_depthOf_20 : Dc cX6_depthOf 20 (.istore 7) 2 22 := ⟨by decide +kernel, rfl⟩
theorem dX6_depthOf_22 : Dc cX6_depthOf 22 (.iload 7) 2 24 := ⟨by decide +kernel, rfl⟩
theorem dX6_depthOf_24 : Dc cX6_depthOf 24 (.iload_n 2) 1 25 := ⟨by decide +kernel, rfl⟩
theorem dX6_depthOf_25 : Dj cX6_depthOf 25 (.if_icmp .ge 95) 3 28 (95) 120 := ⟨by decide +kernel, rfl, by decide⟩
theorem dX6_depthOf_28 : Dc cX6_depthOf 28 (.aload_n 0) 1 29 := ⟨by decide +kernel, rfl⟩
theorem dX6_depthOf_29 : Dc cX6_depthOf 29 (.iload_n 1) 1 30 := ⟨by decide +kernel, rfl⟩
theorem dX6_depthOf_30 : Dc cX6_depthOf 30 (.iload 7) 2 32 := ⟨by decide +kernel, rfl⟩
theorem dX6_depthOf_32 : Dc cX6_depthOf 32 (.iconst 0) 1 33 := ⟨by decide +kernel, rfl⟩
theorem dX6_depthOf_33 : Dc cX6_depthOf 33 (.invokevirtual 43) 3 36 := ⟨by decide +kernel, rfl⟩
theorem dX6_depthOf_36 : Dc cX6_depthOf 36 (.istore 8) 2 38 := ⟨by decide +kernel, rfl⟩
theorem dX6_depthOf_38 : Dc cX6_depthOf 38 (.iload 8) 2 40 := ⟨by decide +kernel, rfl⟩
theorem dX6_depthOf_40 : Dc cX6_depthOf 40 (.iload 4) 2 42 := ⟨by decide +kernel, rfl⟩
theorem dX6_depthOf_42 : Dj cX6_depthOf 42 (.if_icmp .le 14) 3 45 (14) 56 := ⟨by decide +kernel, rfl, by decide⟩
theorem dX6_depthOf_45 : Dc cX6_depthOf 45 (.iload 8) 2 47 := ⟨by decide +kernel, rfl⟩
theorem dX6_depthOf_47 : Dc cX6_depthOf 47 (.iload 5) 2 49 := ⟨by decide +kernel, rfl⟩
theorem dX6_depthOf_49 : Dj cX6_depthOf 49 (.if_icmp .ge 7) 3 52 (7) 56 := ⟨by decide +kernel, rfl, by decide⟩
theorem dX6_depthOf_52 : Dc cX6_depthOf 52 (.iconst 1) 1 53 := ⟨by decide +kernel, rfl⟩
theorem dX6_depthOf_53 : Dj cX6_depthOf 53 (.goto 4) 3 56 (4) 57 := ⟨by decide +kernel, rfl, by decide⟩
theorem dX6_depthOf_56 : Dc cX6_depthOf 56 (.iconst 0) 1 57 := ⟨by decide +kernel, rfl⟩
theorem dX6_depthOf_57 : Dc cX6_depthOf 57 (.istore 9) 2 59 := ⟨by decide +kernel, rfl⟩
theorem dX6_depthOf_59 : Dc cX6_depthOf 59 (.iload 6) 2 61 := ⟨by decide +kernel, rfl⟩
theorem dX6_depthOf_61 : Dc cX6_depthOf 61 (.iload 9) 2 63 := ⟨by decide +kernel, rfl⟩
theorem dX6_depthOf_63 : Dj cX6_depthOf 63 (.ifCond .eq 7) 3 66 (7) 70 := ⟨by decide +kernel, rfl, by decide⟩
theorem dX6_depthOf_66 : Dc cX6_depthOf 66 (.iconst 1) 1 67 := ⟨by decide +kernel, rfl⟩
theorem dX6_depthOf_67 : Dj cX6_depthOf 67 (.goto 4) 3 70 (4) 71 := ⟨by decide +kernel, rfl, by decide⟩
theorem dX6_depthOf_70 : Dc cX6_depthOf 70 (.iconst 0) 1 71 := ⟨by decide +kernel, rfl⟩
theorem dX6_depthOf_71 : Dc cX6_depthOf 71 (.iadd) 1 72 := ⟨by decide +kernel, rfl⟩
theorem dX6_depthOf_72 : Dc cX6_depthOf 72 (.istore 6) 2 74 := ⟨by decide +kernel, rfl⟩
theorem dX6_depthOf_74 : Dc cX6_depthOf 74 (.iload 9) 2 76 := ⟨by decide +kernel, rfl⟩
theorem dX6_depthOf_76 : Dj cX6_depthOf 76 (.ifCond .eq 14) 3 79 (14) 90 := ⟨by decide +kernel, rfl, by decide⟩
theorem dX6_depthOf_79 : Dc cX6_depthOf 79 (.iload 8) 2 81 := ⟨by decide +kernel, rfl⟩
theorem dX6_depthOf_81 : Dc cX6_depthOf 81 (.iload_n 3) 1 82 := ⟨by decide +kernel, rfl⟩
theorem dX6_depthOf_82 : Dj cX6_depthOf 82 (.if_icmp .ge 8) 3 85 (8) 90 := ⟨by decide +kernel, rfl, by decide⟩
theorem dX6_depthOf_85 : Dc cX6_depthOf 85 (.iload 8) 2 87 := ⟨by decide +kernel, rfl⟩
theorem dX6_depthOf_87 : Dj cX6_depthOf 87 (.goto 5) 3 90 (5) 92 := ⟨by decide +kernel, rfl, by decide⟩
theorem dX6_depthOf_90 : Dc cX6_depthOf 90 (.iload 4) 2 92 := ⟨by decide +kernel, rfl⟩
theorem dX6_depthOf_92 : Dc cX6_depthOf 92 (.istore 4) 2 94 := ⟨by decide +kernel, rfl⟩
theorem dX6_depthOf_94 : Dc cX6_depthOf 94 (.iload 9) 2 96 := ⟨by decide +kernel, rfl⟩
theorem dX6_depthOf_96 : Dj cX6_depthOf 96 (.ifCond .eq 14) 3 99 (14) 110 := ⟨by decide +kernel, rfl, by decide⟩
theorem dX6_depthOf_99 : Dc cX6_depthOf 99 (.iload 8) 2 101 := ⟨by decide +kernel, rfl⟩
theorem dX6_depthOf_101 : Dc cX6_depthOf 101 (.iload_n 3) 1 102 := ⟨by decide +kernel, rfl⟩
theorem dX6_depthOf_102 : Dj cX6_depthOf 102 (.if_icmp .le 8) 3 105 (8) 110 := ⟨by decide +kernel, rfl, by decide⟩
theorem dX6_depthOf_105 : Dc cX6_depthOf 105 (.iload 8) 2 107 := ⟨by decide +kernel, rfl⟩
theorem dX6_depthOf_107 : Dj cX6_depthOf 107 (.goto 5) 3 110 (5) 112 := ⟨by decide +kernel, rfl, by decide⟩
theorem dX6_depthOf_110 : Dc cX6_depthOf 110 (.iload 5) 2 112 := ⟨by decide +kernel, rfl⟩
theorem dX6_depthOf_112 : Dc cX6_depthOf 112 (.istore 5) 2 114 := ⟨by decide +kernel, rfl⟩
theorem dX6_depthOf_114 : Dc cX6_depthOf 114 (.iinc 7 1) 3 117 := ⟨by decide +kernel, rfl⟩
theorem dX6_depthOf_117 : Dj cX6_depthOf 117 (.goto (-95)) 3 120 (-95) 22 := ⟨by decide +kernel, rfl, by decide⟩
theorem dX6_depthOf_120 : Dc cX6_depthOf 120 (.iload 6) 2 122 := ⟨by decide +kernel, rfl⟩
theorem dX6_depthOf_122 : Dc cX6_depthOf 122 (.ireturn) 1 123 := ⟨by decide +kernel, rfl⟩
def LX6_depthOf_22 (k120 : Int32 → Option Int32) (v2 : Int32) (o : OM) (v1 : Int32) (r_1 : Int32) : Nat → Int32 → Int32 → Int32 → Int32 → Option Int32
  | 0 => fun _ _ _ _ => none
  | n + 1 => fun v4_3 v5_4 v6_5 v7_6 => if v2 ≤ v7_6 then (k120 v6_5) else (bq (F_X6_pointOf o v1 v7_6 ((0 : Int32))) (fun r_7 => bd (fun (s_8 : Int32) => bd (fun (s_9 : Int32) => bd (v6_5 + s_9) (fun v6_10 : Int32 => bd (fun (s_11 : Int32) => bd (fun (s_12 : Int32) => bd (v7_6 + (1 : Int32)) (fun v7_13 : Int32 => (LX6_depthOf_22 k120 v2 o v1 r_1 n) s_11 s_12 v6_10 v7_13)) (fun k112 => bd (fun (_ : Unit) => k112 v5_4) (fun k110 => if s_8 = 0 then (k110 ()) else (if r_7 ≤ r_1 then (k110 ()) else (k112 r_7))))) (fun k92 => bd (fun (_ : Unit) => k92 v4_3) (fun k90 => if s_8 = 0 then (k90 ()) else (if r_1 ≤ r_7 then (k90 ()) else (k92 r_7)))))) (fun k71 => if s_8 = 0 then (k71 ((0 : Int32))) else (k71 ((1 : Int32))))) (fun k57 => bd (fun (_ : Unit) => k57 ((0 : Int32))) (fun k56 => if r_7 ≤ v4_3 then (k56 ()) else (if v5_4 ≤ r_7 then (k56 ()) else (k57 ((1 : Int32))))))))
def F_X6_depthOf (o : OM) (v1 : Int32) (v2 : Int32) : Option Int32 := bq (F_X6_pointOf o v1 v2 ((0 : Int32))) (fun r_1 => bd (fun (v6_2 : Int32) => some v6_2) (fun k120 => LX6_depthOf_22 k120 v2 o v1 r_1 FU ((-1000000 : Int32)) ((1000000 : Int32)) ((1 : Int32)) ((0 : Int32))))
abbrev rmX6_depthOf : Room := { frames := 2, cells := 0, slots := 0, locals := 44 }
set_option maxHeartbeats 4000000 in
set_option maxRecDepth 100000 in
theorem lX6_depthOf_22 {G : Gd} {p : Program} {l : Launch} {e : Env} {s : State} {m : MethodId} {args : Array Value} {below : List Frame} {meth : Method} {c : Code} {r : Int32} {v2 : Int32} {o : OM} {v1 : Int32} {r_1 : Int32} (C : Cx G RX6 cX6_depthOf 10 (some .int) p s m args meth c)  {k120 : Int32 → Option Int32} (j120 : ∀ (v6_2 : Int32) H1 L1 ls, Hp G o s H1 L1 → lv_has ls 10 [(6, .int v6_2)] → k120 v6_2 = some r → W p l e rmX6_depthOf s m args below meth c H1 L1 0 0 (Qm G (some (.int r)) o rmX6_depthOf below args s) (F0 m 120 ls [])) : ∀ (n : Nat) (v4_3 : Int32) (v5_4 : Int32) (v6_5 : Int32) (v7_6 : Int32) H1 L1 ls, Hp G o s H1 L1 → lv_has ls 10 [(0, .ref (rA G 19 0)), (1, .int v1), (2, .int v2), (3, .int r_1), (4, .int v4_3), (5, .int v5_4), (6, .int v6_5), (7, .int v7_6)] → LX6_depthOf_22 k120 v2 o v1 r_1 n v4_3 v5_4 v6_5 v7_6 = some r → W p l e rmX6_depthOf s m args below meth c H1 L1 0 0 (Qm G (some (.int r)) o rmX6_depthOf below args s) (F0 m 22 ls []) := by
  intro n
  induction n with
  | zero =>
    intro v4_3 v5_4 v6_5 v7_6 H1 L1 ls P hl hf
    exact nomatch hf
  | succ n ih =>
    intro v4_3 v5_4 v6_5 v7_6 H1 L1 ls P hl hf
    rw [LX6_depthOf_22.eq_2] at hf
    refine r_iload C hl 7 rfl dX6_depthOf_22 ?_
    refine r_iload_n C hl 2 rfl rfl dX6_depthOf_24 ?_
    refine r_icmp_ge C dX6_depthOf_25 hf (fun hf => ?_) (fun hf => ?_)
    · exact j120 v6_5 _ _ _ P (lv_sub hl [6] rfl) hf
    · refine r_aload_n C hl 0 rfl rfl dX6_depthOf_28 ?_
      refine r_iload_n C hl 1 rfl rfl dX6_depthOf_29 ?_
      refine r_iload C hl 7 rfl dX6_depthOf_30 ?_
      refine r_iconst C (v := 0) (by decide) dX6_depthOf_32 ?_
      refine r_qVi C P cf_X6_43 (rm := rmX6_pointOf) 19 0 (fun _ _ => ⟨_, rfl⟩) rfl rfl rfl [.int v1, .int v7_6, .int ((0 : Int32))] [] hf (fun _ h => ctX6_pointOf l G o v1 v7_6 ((0 : Int32)) h) ⟨rfl, rfl⟩ ⟨Nat.le_of_ble_eq_true rfl, Nat.le_of_ble_eq_true rfl⟩ ⟨Nat.le_of_ble_eq_true rfl, Nat.le_of_ble_eq_true rfl⟩ rfl rfl hl.1 (Nat.le_of_ble_eq_true rfl) dX6_depthOf_33 (fun r_7 H1 L1 P hf => ?_)
      refine r_istore C [(8, .int r_7), (0, .ref (rA G 19 0)), (1, .int v1), (2, .int v2), (3, .int r_1), (4, .int v4_3), (5, .int v5_4), (6, .int v6_5), (7, .int v7_6)] hl (by decide) rfl dX6_depthOf_36 (fun ls hl => ?_)
      refine r_iload C hl 0 rfl dX6_depthOf_38 ?_
      refine r_iload C hl 5 rfl dX6_depthOf_40 ?_
      refine r_jn (fun k57 : Int32 → Option Int32 => ∀ (s_8 : Int32) H1 L1 ls, Hp G o s H1 L1 → lv_has ls 10 [(0, .ref (rA G 19 0)), (1, .int v1), (2, .int v2), (3, .int r_1), (4, .int v4_3), (5, .int v5_4), (6, .int v6_5), (7, .int v7_6), (8, .int r_7)] → k57 s_8 = some r → W p l e rmX6_depthOf s m args below meth c H1 L1 0 0 (Qm G (some (.int r)) o rmX6_depthOf below args s) (F0 m 57 ls [.int s_8])) hf ?_ (fun k57 j57 hf => ?_)
      · intro s_8 H1 L1 ls  P hl hf
        refine r_istore C [(9, .int s_8), (0, .ref (rA G 19 0)), (1, .int v1), (2, .int v2), (3, .int r_1), (4, .int v4_3), (5, .int v5_4), (6, .int v6_5), (7, .int v7_6), (8, .int r_7)] hl (by decide) rfl dX6_depthOf_57 (fun ls hl => ?_)
        refine r_iload C hl 7 rfl dX6_depthOf_59 ?_
        refine r_iload C hl 0 rfl dX6_depthOf_61 ?_
        refine r_jn (fun k71 : Int32 → Option Int32 => ∀ (s_9 : Int32) H1 L1 ls, Hp G o s H1 L1 → lv_has ls 10 [(0, .ref (rA G 19 0)), (1, .int v1), (2, .int v2), (3, .int r_1), (4, .int v4_3), (5, .int v5_4), (7, .int v7_6), (8, .int r_7), (9, .int s_8)] → k71 s_9 = some r → W p l e rmX6_depthOf s m args below meth c H1 L1 0 0 (Qm G (some (.int r)) o rmX6_depthOf below args s) (F0 m 71 ls [.int s_9, .int v6_5])) hf ?_ (fun k71 j71 hf => ?_)
        · intro s_9 H1 L1 ls  P hl hf
          refine r_iadd2 C dX6_depthOf_71 ?_
          refine r_bdi hf (fun v6_10 hf => ?_)
          refine r_istore C [(6, .int v6_10), (0, .ref (rA G 19 0)), (1, .int v1), (2, .int v2), (3, .int r_1), (4, .int v4_3), (5, .int v5_4), (7, .int v7_6), (8, .int r_7), (9, .int s_8)] hl (by decide) rfl dX6_depthOf_72 (fun ls hl => ?_)
          refine r_iload C hl 9 rfl dX6_depthOf_74 ?_
          refine r_jn (fun k92 : Int32 → Option Int32 => ∀ (s_11 : Int32) H1 L1 ls, Hp G o s H1 L1 → lv_has ls 10 [(0, .ref (rA G 19 0)), (1, .int v1), (2, .int v2), (3, .int r_1), (5, .int v5_4), (6, .int v6_10), (7, .int v7_6), (8, .int r_7), (9, .int s_8)] → k92 s_11 = some r → W p l e rmX6_depthOf s m args below meth c H1 L1 0 0 (Qm G (some (.int r)) o rmX6_depthOf below args s) (F0 m 92 ls [.int s_11])) hf ?_ (fun k92 j92 hf => ?_)
          · intro s_11 H1 L1 ls  P hl hf
            refine r_istore C [(4, .int s_11), (0, .ref (rA G 19 0)), (1, .int v1), (2, .int v2), (3, .int r_1), (5, .int v5_4), (6, .int v6_10), (7, .int v7_6), (8, .int r_7), (9, .int s_8)] hl (by decide) rfl dX6_depthOf_92 (fun ls hl => ?_)
            refine r_iload C hl 9 rfl dX6_depthOf_94 ?_
            refine r_jn (fun k112 : Int32 → Option Int32 => ∀ (s_12 : Int32) H1 L1 ls, Hp G o s H1 L1 → lv_has ls 10 [(0, .ref (rA G 19 0)), (1, .int v1), (2, .int v2), (3, .int r_1), (4, .int s_11), (6, .int v6_10), (7, .int v7_6)] → k112 s_12 = some r → W p l e rmX6_depthOf s m args below meth c H1 L1 0 0 (Qm G (some (.int r)) o rmX6_depthOf below args s) (F0 m 112 ls [.int s_12])) hf ?_ (fun k112 j112 hf => ?_)
            · intro s_12 H1 L1 ls  P hl hf
              refine r_istore C [(5, .int s_12), (0, .ref (rA G 19 0)), (1, .int v1), (2, .int v2), (3, .int r_1), (4, .int s_11), (6, .int v6_10), (7, .int v7_6)] hl (by decide) rfl dX6_depthOf_112 (fun ls hl => ?_)
              refine r_iinc C (fun v7_13 => [(7, .int v7_13), (5, .int s_12), (0, .ref (rA G 19 0)), (1, .int v1), (2, .int v2), (3, .int r_1), (4, .int s_11), (6, .int v6_10)]) (w := 1) 7 hl rfl (by decide) (by decide) (fun _ => rfl) dX6_depthOf_114 hf (fun v7_13 ls hl hf => ?_)
              refine r_goto C dX6_depthOf_117 ?_
              exact ih s_11 s_12 v6_10 v7_13 _ _ _ P (lv_sub hl [2, 3, 4, 5, 6, 1, 7, 0] rfl) hf
            refine r_jn (fun k110 : Unit → Option Int32 => ∀ H1 L1 ls, Hp G o s H1 L1 → lv_has ls 10 [(0, .ref (rA G 19 0)), (1, .int v1), (2, .int v2), (3, .int r_1), (4, .int s_11), (5, .int v5_4), (6, .int v6_10), (7, .int v7_6)] → k110 () = some r → W p l e rmX6_depthOf s m args below meth c H1 L1 0 0 (Qm G (some (.int r)) o rmX6_depthOf below args s) (F0 m 110 ls [])) hf ?_ (fun k110 j110 hf => ?_)
            · intro  H1 L1 ls  P hl hf
              refine r_iload C hl 5 rfl dX6_depthOf_110 ?_
              exact j112 v5_4 _ _ _ P (lv_sub hl [0, 1, 2, 3, 4, 6, 7] rfl) hf
            refine r_if_eq C dX6_depthOf_96 hf (fun hf => ?_) (fun hf => ?_)
            · exact j110  _ _ _ P (lv_sub hl [1, 2, 3, 4, 0, 5, 6, 7] rfl) hf
            · refine r_iload C hl 8 rfl dX6_depthOf_99 ?_
              refine r_iload_n C hl 4 rfl rfl dX6_depthOf_101 ?_
              refine r_icmp_le C dX6_depthOf_102 hf (fun hf => ?_) (fun hf => ?_)
              · exact j110  _ _ _ P (lv_sub hl [1, 2, 3, 4, 0, 5, 6, 7] rfl) hf
              · refine r_iload C hl 8 rfl dX6_depthOf_105 ?_
                refine r_goto C dX6_depthOf_107 ?_
                exact j112 r_7 _ _ _ P (lv_sub hl [1, 2, 3, 4, 0, 6, 7] rfl) hf
          refine r_jn (fun k90 : Unit → Option Int32 => ∀ H1 L1 ls, Hp G o s H1 L1 → lv_has ls 10 [(0, .ref (rA G 19 0)), (1, .int v1), (2, .int v2), (3, .int r_1), (4, .int v4_3), (5, .int v5_4), (6, .int v6_10), (7, .int v7_6), (8, .int r_7), (9, .int s_8)] → k90 () = some r → W p l e rmX6_depthOf s m args below meth c H1 L1 0 0 (Qm G (some (.int r)) o rmX6_depthOf below args s) (F0 m 90 ls [])) hf ?_ (fun k90 j90 hf => ?_)
          · intro  H1 L1 ls  P hl hf
            refine r_iload C hl 4 rfl dX6_depthOf_90 ?_
            exact j92 v4_3 _ _ _ P (lv_sub hl [0, 1, 2, 3, 5, 6, 7, 8, 9] rfl) hf
          refine r_if_eq C dX6_depthOf_76 hf (fun hf => ?_) (fun hf => ?_)
          · exact j90  _ _ _ P (lv_sub hl [1, 2, 3, 4, 5, 6, 0, 7, 8, 9] rfl) hf
          · refine r_iload C hl 8 rfl dX6_depthOf_79 ?_
            refine r_iload_n C hl 4 rfl rfl dX6_depthOf_81 ?_
            refine r_icmp_ge C dX6_depthOf_82 hf (fun hf => ?_) (fun hf => ?_)
            · exact j90  _ _ _ P (lv_sub hl [1, 2, 3, 4, 5, 6, 0, 7, 8, 9] rfl) hf
            · refine r_iload C hl 8 rfl dX6_depthOf_85 ?_
              refine r_goto C dX6_depthOf_87 ?_
              exact j92 r_7 _ _ _ P (lv_sub hl [1, 2, 3, 4, 6, 0, 7, 8, 9] rfl) hf
        refine r_if_eq C dX6_depthOf_63 hf (fun hf => ?_) (fun hf => ?_)
        · refine r_iconst C (v := 0) (by decide) dX6_depthOf_70 ?_
          exact j71 ((0 : Int32)) _ _ _ P (lv_sub hl [1, 2, 3, 4, 5, 6, 8, 9, 0] rfl) hf
        · refine r_iconst C (v := 1) (by decide) dX6_depthOf_66 ?_
          refine r_goto C dX6_depthOf_67 ?_
          exact j71 ((1 : Int32)) _ _ _ P (lv_sub hl [1, 2, 3, 4, 5, 6, 8, 9, 0] rfl) hf
      refine r_jn (fun k56 : Unit → Option Int32 => ∀ H1 L1 ls, Hp G o s H1 L1 → lv_has ls 10 [(0, .ref (rA G 19 0)), (1, .int v1), (2, .int v2), (3, .int r_1), (4, .int v4_3), (5, .int v5_4), (6, .int v6_5), (7, .int v7_6), (8, .int r_7)] → k56 () = some r → W p l e rmX6_depthOf s m args below meth c H1 L1 0 0 (Qm G (some (.int r)) o rmX6_depthOf below args s) (F0 m 56 ls [])) hf ?_ (fun k56 j56 hf => ?_)
      · intro  H1 L1 ls  P hl hf
        refine r_iconst C (v := 0) (by decide) dX6_depthOf_56 ?_
        exact j57 ((0 : Int32)) _ _ _ P (lv_sub hl [0, 1, 2, 3, 4, 5, 6, 7, 8] rfl) hf
      refine r_icmp_le C dX6_depthOf_42 hf (fun hf => ?_) (fun hf => ?_)
      · exact j56  _ _ _ P (lv_sub hl [1, 2, 3, 4, 5, 6, 7, 8, 0] rfl) hf
      · refine r_iload C hl 0 rfl dX6_depthOf_45 ?_
        refine r_iload C hl 6 rfl dX6_depthOf_47 ?_
        refine r_icmp_ge C dX6_depthOf_49 hf (fun hf => ?_) (fun hf => ?_)
        · exact j56  _ _ _ P (lv_sub hl [1, 2, 3, 4, 5, 6, 7, 8, 0] rfl) hf
        · refine r_iconst C (v := 1) (by decide) dX6_depthOf_52 ?_
          refine r_goto C dX6_depthOf_53 ?_
          exact j57 ((1 : Int32)) _ _ _ P (lv_sub hl [1, 2, 3, 4, 5, 6, 7, 8, 0] rfl) hf
set_option maxHeartbeats 4000000 in
set_option maxRecDepth 100000 in
theorem wX6_depthOf {G : Gd} {p : Program} {l : Launch} {e : Env} {s : State} {m : MethodId} {args : Array Value} {below : List Frame} {meth : Method} {c : Code} {o : OM} {H : Heap} {L0 : List Loc} {ls : Array Slot} {r : Int32} {v1 : Int32} {v2 : Int32} (C : Cx G RX6 cX6_depthOf 10 (some .int) p s m args meth c)  (P : Hp G o s H L0) (hl : lv_has ls 10 [(0, .ref (rA G 19 0)), (1, .int v1), (2, .int v2)]) (hf : F_X6_depthOf o v1 v2 = some r) : W p l e rmX6_depthOf s m args below meth c H L0 0 0 (Qm G (some (.int r)) o rmX6_depthOf below args s) (F0 m 0 ls []) := by
  unfold F_X6_depthOf at hf
  refine r_aload_n C hl 0 rfl rfl dX6_depthOf_0 ?_
  refine r_iload_n C hl 1 rfl rfl dX6_depthOf_1 ?_
  refine r_iload_n C hl 2 rfl rfl dX6_depthOf_2 ?_
  refine r_iconst C (v := 0) (by decide) dX6_depthOf_3 ?_
  refine r_qVi C P cf_X6_43 (rm := rmX6_pointOf) 19 0 (fun _ _ => ⟨_, rfl⟩) rfl rfl rfl [.int v1, .int v2, .int ((0 : Int32))] [] hf (fun _ h => ctX6_pointOf l G o v1 v2 ((0 : Int32)) h) ⟨rfl, rfl⟩ ⟨Nat.le_of_ble_eq_true rfl, Nat.le_of_ble_eq_true rfl⟩ ⟨Nat.le_of_ble_eq_true rfl, Nat.le_of_ble_eq_true rfl⟩ rfl rfl hl.1 (Nat.le_of_ble_eq_true rfl) dX6_depthOf_4 (fun r_1 H1 L1 P hf => ?_)
  refine r_istore_n C [(3, .int r_1), (0, .ref (rA G 19 0)), (1, .int v1), (2, .int v2)] hl (by decide) rfl rfl dX6_depthOf_7 (fun ls hl => ?_)
  refine r_ldc C wd_1164 dX6_depthOf_8 ?_
  refine r_istore C [(4, .int ((-1000000 : Int32))), (3, .int r_1), (0, .ref (rA G 19 0)), (1, .int v1), (2, .int v2)] hl (by decide) rfl dX6_depthOf_10 (fun ls hl => ?_)
  refine r_ldc C wd_1165 dX6_depthOf_12 ?_
  refine r_istore C [(5, .int ((1000000 : Int32))), (4, .int ((-1000000 : Int32))), (3, .int r_1), (0, .ref (rA G 19 0)), (1, .int v1), (2, .int v2)] hl (by decide) rfl dX6_depthOf_14 (fun ls hl => ?_)
  refine r_iconst C (v := 1) (by decide) dX6_depthOf_16 ?_
  refine r_istore C [(6, .int ((1 : Int32))), (5, .int ((1000000 : Int32))), (4, .int ((-1000000 : Int32))), (3, .int r_1), (0, .ref (rA G 19 0)), (1, .int v1), (2, .int v2)] hl (by decide) rfl dX6_depthOf_17 (fun ls hl => ?_)
  refine r_iconst C (v := 0) (by decide) dX6_depthOf_19 ?_
  refine r_istore C [(7, .int ((0 : Int32))), (6, .int ((1 : Int32))), (5, .int ((1000000 : Int32))), (4, .int ((-1000000 : Int32))), (3, .int r_1), (0, .ref (rA G 19 0)), (1, .int v1), (2, .int v2)] hl (by decide) rfl dX6_depthOf_20 (fun ls hl => ?_)
  refine r_jn (fun k120 : Int32 → Option Int32 => ∀ (v6_2 : Int32) H1 L1 ls, Hp G o s H1 L1 → lv_has ls 10 [(6, .int v6_2)] → k120 v6_2 = some r → W p l e rmX6_depthOf s m args below meth c H1 L1 0 0 (Qm G (some (.int r)) o rmX6_depthOf below args s) (F0 m 120 ls [])) hf ?_ (fun k120 j120 hf => ?_)
  · intro v6_2 H1 L1 ls  P hl hf
    refine r_iload C hl 0 rfl dX6_depthOf_120 ?_
    exact q_iret C P (rm := rmX6_depthOf) ⟨rfl, rfl⟩ dX6_depthOf_122 hf
  exact lX6_depthOf_22 C  j120 FU ((-1000000 : Int32)) ((1000000 : Int32)) ((1 : Int32)) ((0 : Int32)) _ _ _ P (lv_sub hl [5, 6, 7, 4, 3, 2, 1, 0] rfl) hf
theorem ctX6_depthOf (l : Launch) (G : Gd) (o : OM) (v1 : Int32) (v2 : Int32)  {r : Int32} (hf : F_X6_depthOf o v1 v2 = some r) : Ct l yX6_depthOf cX6_depthOf 10 (some .int) rmX6_depthOf G [.ref (rA G 19 0), .int v1, .int v2] o (some (.int r)) o := ct_of (by decide +kernel) (Nat.le_of_ble_eq_true rfl) (fun p e s m below meth c ls C P hl => wX6_depthOf C  P hl hf)
theorem cf_X6_61 : CallF false RX6 61 yX6_depthOf cX6_depthOf 10 (some .int) 2 := ⟨wd_1160, (by rw [if_neg (by decide)]; exact ⟨wd_1162, wd_54⟩), wd_71, wd_1163, by decide, by decide +kernel⟩
theorem dX6_depth_0 : Dc cX6_depth 0 (.iconst 0) 1 1 := ⟨by decide +kernel, rfl⟩
theorem dX6_depth_1 : Dc cX6_depth 1 (.istore_n 2) 1 2 := ⟨by decide +kernel, rfl⟩
theorem dX6_depth_2 : Dc cX6_depth 2 (.iconst 0) 1 3 := ⟨by decide +kernel, rfl⟩
theorem dX6_depth_3 : Dc cX6_depth 3 (.istore_n 3) 1 4 := ⟨by decide +kernel, rfl⟩
theorem dX6_depth_4 : Dc cX6_depth 4 (.iload_n 3) 1 5 := ⟨by decide +kernel, rfl⟩
theorem dX6_depth_5 : Dc cX6_depth 5 (.aload_n 0) 1 6 := ⟨by decide +kernel, rfl⟩
theorem dX6_depth_6 : Dc cX6_depth 6 (.iload_n 1) 1 7 := ⟨by decide +kernel, rfl⟩
theorem dX6_depth_7 : Dc cX6_depth 7 (.bipush 7) 2 9 := ⟨by decide +kernel, rfl⟩
theorem dX6_depth_9 : Dc cX6_depth 9 (.invokevirtual 37) 3 12 := ⟨by decide +kernel, rfl⟩
theorem dX6_depth_12 : Dj cX6_depth 12 (.if_icmp .ge 30) 3 15 (30) 42 := ⟨by decide +kernel, rfl, by decide⟩
theorem dX6_depth_15 : Dc cX6_depth 15 (.aload_n 0) 1 16 := ⟨by decide +kernel, rfl⟩
theorem dX6_depth_16 : Dc cX6_depth 16 (.iload_n 1) 1 17 := ⟨by decide +kernel, rfl⟩
theorem dX6_depth_17 : Dc cX6_depth 17 (.iload_n 3) 1 18 := ⟨by decide +kernel, rfl⟩
theorem dX6_depth_18 : Dc cX6_depth 18 (.invokevirtual 61) 3 21 := ⟨by decide +kernel, rfl⟩
theorem dX6_depth_21 : Dc cX6_depth 21 (.iload_n 2) 1 22 := ⟨by decide +kernel, rfl⟩
theorem dX6_depth_22 : Dj cX6_depth 22 (.if_icmp .le 12) 3 25 (12) 34 := ⟨by decide +kernel, rfl, by decide⟩
theorem dX6_depth_25 : Dc cX6_depth 25 (.aload_n 0) 1 26 := ⟨by decide +kernel, rfl⟩
theorem dX6_depth_26 : Dc cX6_depth 26 (.iload_n 1) 1 27 := ⟨by decide +kernel, rfl⟩
theorem dX6_depth_27 : Dc cX6_depth 27 (.iload_n 3) 1 28 := ⟨by decide +kernel, rfl⟩
theorem dX6_depth_28 : Dc cX6_depth 28 (.invokevirtual 61) 3 31 := ⟨by decide +kernel, rfl⟩
theorem dX6_depth_31 : Dj cX6_depth 31 (.goto 4) 3 34 (4) 35 := ⟨by decide +kernel, rfl, by decide⟩
theorem dX6_depth_34 : Dc cX6_depth 34 (.iload_n 2) 1 35 := ⟨by decide +kernel, rfl⟩
theorem dX6_depth_35 : Dc cX6_depth 35 (.istore_n 2) 1 36 := ⟨by decide +kernel, rfl⟩
theorem dX6_depth_36 : Dc cX6_depth 36 (.iinc 3 1) 3 39 := ⟨by decide +kernel, rfl⟩
theorem dX6_depth_39 : Dj cX6_depth 39 (.goto (-35)) 3 42 (-35) 4 := ⟨by decide +kernel, rfl, by decide⟩
theorem dX6_depth_42 : Dc cX6_depth 42 (.iload_n 2) 1 43 := ⟨by decide +kernel, rfl⟩
theorem dX6_depth_43 : Dc cX6_depth 43 (.ireturn) 1 44 := ⟨by decide +kernel, rfl⟩
def LX6_depth_4 (k42 : Int32 → Option Int32) (o : OM) (v1 : Int32) : Nat → Int32 → Int32 → Option Int32
  | 0 => fun _ _ => none
  | n + 1 => fun v2_2 v3_3 => bq (F_X6_get o v1 ((7 : Int32))) (fun r_4 => if r_4 ≤ v3_3 then (k42 v2_2) else (bq (F_X6_depthOf o v1 v3_3) (fun r_5 => bd (fun (s_6 : Int32) => bd (v3_3 + (1 : Int32)) (fun v3_7 : Int32 => (LX6_depth_4 k42 o v1 n) s_6 v3_7)) (fun k35 => if r_5 ≤ v2_2 then (k35 v2_2) else (bq (F_X6_depthOf o v1 v3_3) (fun r_8 => k35 r_8))))))
def F_X6_depth (o : OM) (v1 : Int32) : Option Int32 := bd (fun (v2_1 : Int32) => some v2_1) (fun k42 => LX6_depth_4 k42 o v1 FU ((0 : Int32)) ((0 : Int32)))
abbrev rmX6_depth : Room := { frames := 3, cells := 0, slots := 0, locals := 73 }
set_option maxHeartbeats 4000000 in
set_option maxRecDepth 100000 in
theorem lX6_depth_4 {G : Gd} {p : Program} {l : Launch} {e : Env} {s : State} {m : MethodId} {args : Array Value} {below : List Frame} {meth : Method} {c : Code} {r : Int32} {o : OM} {v1 : Int32} (C : Cx G RX6 cX6_depth 4 (some .int) p s m args meth c)  {k42 : Int32 → Option Int32} (j42 : ∀ (v2_1 : Int32) H1 L1 ls, Hp G o s H1 L1 → lv_has ls 4 [(2, .int v2_1)] → k42 v2_1 = some r → W p l e rmX6_depth s m args below meth c H1 L1 0 0 (Qm G (some (.int r)) o rmX6_depth below args s) (F0 m 42 ls [])) : ∀ (n : Nat) (v2_2 : Int32) (v3_3 : Int32) H1 L1 ls, Hp G o s H1 L1 → lv_has ls 4 [(0, .ref (rA G 19 0)), (1, .int v1), (2, .int v2_2), (3, .int v3_3)] → LX6_depth_4 k42 o v1 n v2_2 v3_3 = some r → W p l e rmX6_depth s m args below meth c H1 L1 0 0 (Qm G (some (.int r)) o rmX6_depth below args s) (F0 m 4 ls []) := by
  intro n
  induction n with
  | zero =>
    intro v2_2 v3_3 H1 L1 ls P hl hf
    exact nomatch hf
  | succ n ih =>
    intro v2_2 v3_3 H1 L1 ls P hl hf
    rw [LX6_depth_4.eq_2] at hf
    refine r_iload_n C hl 3 rfl rfl dX6_depth_4 ?_
    refine r_aload_n C hl 0 rfl rfl dX6_depth_5 ?_
    refine r_iload_n C hl 1 rfl rfl dX6_depth_6 ?_
    refine r_bipush C (v := 7) (by decide) dX6_depth_7 ?_
    refine r_qVi C P cf_X6_37 (rm := rmX6_get) 19 0 (fun _ _ => ⟨_, rfl⟩) rfl rfl rfl [.int v1, .int ((7 : Int32))] [.int v3_3] hf (fun _ h => ctX6_get l G o v1 ((7 : Int32)) h) ⟨rfl, rfl⟩ ⟨Nat.le_of_ble_eq_true rfl, Nat.le_of_ble_eq_true rfl⟩ ⟨Nat.le_of_ble_eq_true rfl, Nat.le_of_ble_eq_true rfl⟩ rfl rfl hl.1 (Nat.le_of_ble_eq_true rfl) dX6_depth_9 (fun r_4 H1 L1 P hf => ?_)
    refine r_icmp_ge C dX6_depth_12 hf (fun hf => ?_) (fun hf => ?_)
    · exact j42 v2_2 _ _ _ P (lv_sub hl [2] rfl) hf
    · refine r_aload_n C hl 0 rfl rfl dX6_depth_15 ?_
      refine r_iload_n C hl 1 rfl rfl dX6_depth_16 ?_
      refine r_iload_n C hl 3 rfl rfl dX6_depth_17 ?_
      refine r_qVi C P cf_X6_61 (rm := rmX6_depthOf) 19 0 (fun _ _ => ⟨_, rfl⟩) rfl rfl rfl [.int v1, .int v3_3] [] hf (fun _ h => ctX6_depthOf l G o v1 v3_3 h) ⟨rfl, rfl⟩ ⟨Nat.le_of_ble_eq_true rfl, Nat.le_of_ble_eq_true rfl⟩ ⟨Nat.le_of_ble_eq_true rfl, Nat.le_of_ble_eq_true rfl⟩ rfl rfl hl.1 (Nat.le_of_ble_eq_true rfl) dX6_depth_18 (fun r_5 H1 L1 P hf => ?_)
      refine r_iload_n C hl 2 rfl rfl dX6_depth_21 ?_
      refine r_jn (fun k35 : Int32 → Option Int32 => ∀ (s_6 : Int32) H1 L1 ls, Hp G o s H1 L1 → lv_has ls 4 [(0, .ref (rA G 19 0)), (1, .int v1), (3, .int v3_3)] → k35 s_6 = some r → W p l e rmX6_depth s m args below meth c H1 L1 0 0 (Qm G (some (.int r)) o rmX6_depth below args s) (F0 m 35 ls [.int s_6])) hf ?_ (fun k35 j35 hf => ?_)
      · intro s_6 H1 L1 ls  P hl hf
        refine r_istore_n C [(2, .int s_6), (0, .ref (rA G 19 0)), (1, .int v1), (3, .int v3_3)] hl (by decide) rfl rfl dX6_depth_35 (fun ls hl => ?_)
        refine r_iinc C (fun v3_7 => [(3, .int v3_7), (2, .int s_6), (0, .ref (rA G 19 0)), (1, .int v1)]) (w := 1) 3 hl rfl (by decide) (by decide) (fun _ => rfl) dX6_depth_36 hf (fun v3_7 ls hl hf => ?_)
        refine r_goto C dX6_depth_39 ?_
        exact ih s_6 v3_7 _ _ _ P (lv_sub hl [2, 3, 1, 0] rfl) hf
      refine r_icmp_le C dX6_depth_22 hf (fun hf => ?_) (fun hf => ?_)
      · refine r_iload_n C hl 2 rfl rfl dX6_depth_34 ?_
        exact j35 v2_2 _ _ _ P (lv_sub hl [0, 1, 3] rfl) hf
      · refine r_aload_n C hl 0 rfl rfl dX6_depth_25 ?_
        refine r_iload_n C hl 1 rfl rfl dX6_depth_26 ?_
        refine r_iload_n C hl 3 rfl rfl dX6_depth_27 ?_
        refine r_qVi C P cf_X6_61 (rm := rmX6_depthOf) 19 0 (fun _ _ => ⟨_, rfl⟩) rfl rfl rfl [.int v1, .int v3_3] [] hf (fun _ h => ctX6_depthOf l G o v1 v3_3 h) ⟨rfl, rfl⟩ ⟨Nat.le_of_ble_eq_true rfl, Nat.le_of_ble_eq_true rfl⟩ ⟨Nat.le_of_ble_eq_true rfl, Nat.le_of_ble_eq_true rfl⟩ rfl rfl hl.1 (Nat.le_of_ble_eq_true rfl) dX6_depth_28 (fun r_8 H1 L1 P hf => ?_)
        refine r_goto C dX6_depth_31 ?_
        exact j35 r_8 _ _ _ P (lv_sub hl [0, 1, 3] rfl) hf
set_option maxHeartbeats 4000000 in
set_option maxRecDepth 100000 in
theorem wX6_depth {G : Gd} {p : Program} {l : Launch} {e : Env} {s : State} {m : MethodId} {args : Array Value} {below : List Frame} {meth : Method} {c : Code} {o : OM} {H : Heap} {L0 : List Loc} {ls : Array Slot} {r : Int32} {v1 : Int32} (C : Cx G RX6 cX6_depth 4 (some .int) p s m args meth c)  (P : Hp G o s H L0) (hl : lv_has ls 4 [(0, .ref (rA G 19 0)), (1, .int v1)]) (hf : F_X6_depth o v1 = some r) : W p l e rmX6_depth s m args below meth c H L0 0 0 (Qm G (some (.int r)) o rmX6_depth below args s) (F0 m 0 ls []) := by
  unfold F_X6_depth at hf
  refine r_iconst C (v := 0) (by decide) dX6_depth_0 ?_
  refine r_istore_n C [(2, .int ((0 : Int32))), (0, .ref (rA G 19 0)), (1, .int v1)] hl (by decide) rfl rfl dX6_depth_1 (fun ls hl => ?_)
  refine r_iconst C (v := 0) (by decide) dX6_depth_2 ?_
  refine r_istore_n C [(3, .int ((0 : Int32))), (2, .int ((0 : Int32))), (0, .ref (rA G 19 0)), (1, .int v1)] hl (by decide) rfl rfl dX6_depth_3 (fun ls hl => ?_)
  refine r_jn (fun k42 : Int32 → Option Int32 => ∀ (v2_1 : Int32) H1 L1 ls, Hp G o s H1 L1 → lv_has ls 4 [(2, .int v2_1)] → k42 v2_1 = some r → W p l e rmX6_depth s m args below meth c H1 L1 0 0 (Qm G (some (.int r)) o rmX6_depth below args s) (F0 m 42 ls [])) hf ?_ (fun k42 j42 hf => ?_)
  · intro v2_1 H1 L1 ls  P hl hf
    refine r_iload_n C hl 0 rfl rfl dX6_depth_42 ?_
    exact q_iret C P (rm := rmX6_depth) ⟨rfl, rfl⟩ dX6_depth_43 hf
  exact lX6_depth_4 C  j42 FU ((0 : Int32)) ((0 : Int32)) _ _ _ P (lv_sub hl [2, 3, 1, 0] rfl) hf
theorem ctX6_depth (l : Launch) (G : Gd) (o : OM) (v1 : Int32)  {r : Int32} (hf : F_X6_depth o v1 = some r) : Ct l yX6_depth cX6_depth 4 (some .int) rmX6_depth G [.ref (rA G 19 0), .int v1] o (some (.int r)) o := ct_of (by decide +kernel) (Nat.le_of_ble_eq_true rfl) (fun p e s m below meth c ls C P hl => wX6_depth C  P hl hf)
theorem dX6_ranked_0 : Dc cX6_ranked 0 (.iconst (-1)) 1 1 := ⟨by decide +kernel, rfl⟩
theorem dX6_ranked_1 : Dc cX6_ranked 1 (.istore_n 3) 1 2 := ⟨by decide +kernel, rfl⟩
theorem dX6_ranked_2 : Dc cX6_ranked 2 (.iconst 0) 1 3 := ⟨by decide +kernel, rfl⟩
theorem dX6_ranked_3 : Dc cX6_ranked 3 (.istore 4) 2 5 := ⟨by decide +kernel, rfl⟩
theorem dX6_ranked_5 : Dc cX6_ranked 5 (.iload 4) 2 7 := ⟨by decide +kernel, rfl⟩
theorem dX6_ranked_7 : Dc cX6_ranked 7 (.aload_n 0) 1 8 := ⟨by decide +kernel, rfl⟩
theorem dX6_ranked_8 : Dc cX6_ranked 8 (.iload_n 1) 1 9 := ⟨by decide +kernel, rfl⟩
theorem dX6_ranked_9 : Dc cX6_ranked 9 (.bipush 7) 2 11 := ⟨by decide +kernel, rfl⟩
theorem dX6_ranked_11 : Dc cX6_ranked 11 (.invokevirtual 37) 3 14 := ⟨by decide +kernel, rfl⟩
theorem dX6_ranked_14 : Dj cX6_ranked 14 (.if_icmp .ge 75) 3 17 (75) 89 := ⟨by decide +kernel, rfl, by decide⟩
theorem dX6_ranked_17 : Dc cX6_ranked 17 (.iconst 0) 1 18 := ⟨by decide +kernel, rfl⟩
theorem dX6_ranked_18 : Dc cX6_ranked 18 (.istore 5) 2 20 := ⟨by decide +kernel, rfl⟩
theorem dX6_ranked_20 : Dc cX6_ranked 20 (.iconst 0) 1 21 := ⟨by decide +kernel, rfl⟩
theorem dX6_ranked_21 : Dc cX6_ranked 21 (.istore 6) 2 23 := ⟨by decide +kernel, rfl⟩
theorem dX6_ranked_23 : Dc cX6_ranked 23 (.iload 6) 2 25 := ⟨by decide +kernel, rfl⟩
theorem dX6_ranked_25 : Dc cX6_ranked 25 (.aload_n 0) 1 26 := ⟨by decide +kernel, rfl⟩
theorem dX6_ranked_26 : Dc cX6_ranked 26 (.iload_n 1) 1 27 := ⟨by decide +kernel, rfl⟩
theorem dX6_ranked_27 : Dc cX6_ranked 27 (.bipush 7) 2 29 := ⟨by decide +kernel, rfl⟩
theorem dX6_ranked_29 : Dc cX6_ranked 29 (.invokevirtual 37) 3 32 := ⟨by decide +kernel, rfl⟩
theorem dX6_ranked_32 : Dj cX6_ranked 32 (.if_icmp .ge 38) 3 35 (38) 70 := ⟨by decide +kernel, rfl, by decide⟩
theorem dX6_ranked_35 : Dc cX6_ranked 35 (.iload 5) 2 37 := ⟨by decide +kernel, rfl⟩
theorem dX6_ranked_37 : Dc cX6_ranked 37 (.aload_n 0) 1 38 := ⟨by decide +kernel, rfl⟩
theorem dX6_ranked_38 : Dc cX6_ranked 38 (.iload_n 1) 1 39 := ⟨by decide +kernel, rfl⟩
theorem dX6_ranked_39 : Dc cX6_ranked 39 (.iload 6) 2 41 := ⟨by decide +kernel, rfl⟩
theorem dX6_ranked_41 : Dc cX6_ranked 41 (.iconst 0) 1 42 := ⟨by decide +kernel, rfl⟩
theorem dX6_ranked_42 : Dc cX6_ranked 42 (.invokevirtual 43) 3 45 := ⟨by decide +kernel, rfl⟩
theorem dX6_ranked_45 : Dc cX6_ranked 45 (.aload_n 0) 1 46 := ⟨by decide +kernel, rfl⟩
theorem dX6_ranked_46 : Dc cX6_ranked 46 (.iload_n 1) 1 47 := ⟨by decide +kernel, rfl⟩
theorem dX6_ranked_47 : Dc cX6_ranked 47 (.iload 4) 2 49 := ⟨by decide +kernel, rfl⟩
theorem dX6_ranked_49 : Dc cX6_ranked 49 (.iconst 0) 1 50 := ⟨by decide +kernel, rfl⟩
theorem dX6_ranked_50 : Dc cX6_ranked 50 (.invokevirtual 43) 3 53 := ⟨by decide +kernel, rfl⟩
theorem dX6_ranked_53 : Dj cX6_ranked 53 (.if_icmp .ge 7) 3 56 (7) 60 := ⟨by decide +kernel, rfl, by decide⟩
theorem dX6_ranked_56 : Dc cX6_ranked 56 (.iconst 1) 1 57 := ⟨by decide +kernel, rfl⟩
theorem dX6_ranked_57 : Dj cX6_ranked 57 (.goto 4) 3 60 (4) 61 := ⟨by decide +kernel, rfl, by decide⟩
theorem dX6_ranked_60 : Dc cX6_ranked 60 (.iconst 0) 1 61 := ⟨by decide +kernel, rfl⟩
theorem dX6_ranked_61 : Dc cX6_ranked 61 (.iadd) 1 62 := ⟨by decide +kernel, rfl⟩
theorem dX6_ranked_62 : Dc cX6_ranked 62 (.istore 5) 2 64 := ⟨by decide +kernel, rfl⟩
theorem dX6_ranked_64 : Dc cX6_ranked 64 (.iinc 6 1) 3 67 := ⟨by decide +kernel, rfl⟩
theorem dX6_ranked_67 : Dj cX6_ranked 67 (.goto (-44)) 3 70 (-44) 23 := ⟨by decide +kernel, rfl, by decide⟩
theorem dX6_ranked_70 : Dc cX6_ranked 70 (.iload 5) 2 72 := ⟨by decide +kernel, rfl⟩
theorem dX6_ranked_72 : Dc cX6_ranked 72 (.iload_n 2) 1 73 := ⟨by decide +kernel, rfl⟩
theorem dX6_ranked_73 : Dj cX6_ranked 73 (.if_icmp .ne 8) 3 76 (8) 81 := ⟨by decide +kernel, rfl, by decide⟩
theorem dX6_ranked_76 : Dc cX6_ranked 76 (.iload 4) 2 78 := ⟨by decide +kernel, rfl⟩
theorem dX6_ranked_78 : Dj cX6_ranked 78 (.goto 4) 3 81 (4) 82 := ⟨by decide +kernel, rfl, by decide⟩
theorem dX6_ranked_81 : Dc cX6_ranked 81 (.iload_n 3) 1 82 := ⟨by decide +kernel, rfl⟩
theorem dX6_ranked_82 : Dc cX6_ranked 82 (.istore_n 3) 1 83 := ⟨by decide +kernel, rfl⟩
theorem dX6_ranked_83 : Dc cX6_ranked 83 (.iinc 4 1) 3 86 := ⟨by decide +kernel, rfl⟩
theorem dX6_ranked_86 : Dj cX6_ranked 86 (.goto (-81)) 3 89 (-81) 5 := ⟨by decide +kernel, rfl, by decide⟩
theorem dX6_ranked_89 : Dc cX6_ranked 89 (.iload_n 3) 1 90 := ⟨by decide +kernel, rfl⟩
theorem dX6_ranked_90 : Dc cX6_ranked 90 (.ireturn) 1 91 := ⟨by decide +kernel, rfl⟩
def LX6_ranked_23 (k70 : Int32 → Option Int32) (o : OM) (v1 : Int32) (v4_3 : Int32) : Nat → Int32 → Int32 → Option Int32
  | 0 => fun _ _ => none
  | n + 1 => fun v5_8 v6_9 => bq (F_X6_get o v1 ((7 : Int32))) (fun r_10 => if r_10 ≤ v6_9 then (k70 v5_8) else (bq (F_X6_pointOf o v1 v6_9 ((0 : Int32))) (fun r_11 => bq (F_X6_pointOf o v1 v4_3 ((0 : Int32))) (fun r_12 => bd (fun (s_13 : Int32) => bd (v5_8 + s_13) (fun v5_14 : Int32 => bd (v6_9 + (1 : Int32)) (fun v6_15 : Int32 => (LX6_ranked_23 k70 o v1 v4_3 n) v5_14 v6_15))) (fun k61 => if r_12 ≤ r_11 then (k61 ((0 : Int32))) else (k61 ((1 : Int32))))))))
def LX6_ranked_5 (k89 : Int32 → Option Int32) (o : OM) (v1 : Int32) (v2 : Int32) : Nat → Int32 → Int32 → Option Int32
  | 0 => fun _ _ => none
  | n + 1 => fun v3_2 v4_3 => bq (F_X6_get o v1 ((7 : Int32))) (fun r_4 => if r_4 ≤ v4_3 then (k89 v3_2) else (bd (fun (v5_5 : Int32) => bd (fun (s_6 : Int32) => bd (v4_3 + (1 : Int32)) (fun v4_7 : Int32 => (LX6_ranked_5 k89 o v1 v2 n) s_6 v4_7)) (fun k82 => if v5_5 = v2 then (k82 v4_3) else (k82 v3_2))) (fun k70 => LX6_ranked_23 k70 o v1 v4_3 FU ((0 : Int32)) ((0 : Int32)))))
def F_X6_ranked (o : OM) (v1 : Int32) (v2 : Int32) : Option Int32 := bd (fun (v3_1 : Int32) => some v3_1) (fun k89 => LX6_ranked_5 k89 o v1 v2 FU ((-1 : Int32)) ((0 : Int32)))
abbrev rmX6_ranked : Room := { frames := 2, cells := 0, slots := 0, locals := 44 }
set_option maxHeartbeats 4000000 in
set_option maxRecDepth 100000 in
theorem lX6_ranked_23 {G : Gd} {p : Program} {l : Launch} {e : Env} {s : State} {m : MethodId} {args : Array Value} {below : List Frame} {meth : Method} {c : Code} {r : Int32} {o : OM} {v1 : Int32} {v4_3 : Int32} {v2 : Int32} {v3_2 : Int32} (C : Cx G RX6 cX6_ranked 7 (some .int) p s m args meth c)  {k70 : Int32 → Option Int32} (j70 : ∀ (v5_5 : Int32) H1 L1 ls, Hp G o s H1 L1 → lv_has ls 7 [(0, .ref (rA G 19 0)), (1, .int v1), (2, .int v2), (3, .int v3_2), (4, .int v4_3), (5, .int v5_5)] → k70 v5_5 = some r → W p l e rmX6_ranked s m args below meth c H1 L1 0 0 (Qm G (some (.int r)) o rmX6_ranked below args s) (F0 m 70 ls [])) : ∀ (n : Nat) (v5_8 : Int32) (v6_9 : Int32) H1 L1 ls, Hp G o s H1 L1 → lv_has ls 7 [(0, .ref (rA G 19 0)), (1, .int v1), (2, .int v2), (3, .int v3_2), (4, .int v4_3), (5, .int v5_8), (6, .int v6_9)] → LX6_ranked_23 k70 o v1 v4_3 n v5_8 v6_9 = some r → W p l e rmX6_ranked s m args below meth c H1 L1 0 0 (Qm G (some (.int r)) o rmX6_ranked below args s) (F0 m 23 ls []) := by
  intro n
  induction n with
  | zero =>
    intro v5_8 v6_9 H1 L1 ls P hl hf
    exact nomatch hf
  | succ n ih =>
    intro v5_8 v6_9 H1 L1 ls P hl hf
    rw [LX6_ranked_23.eq_2] at hf
    refine r_iload C hl 6 rfl dX6_ranked_23 ?_
    refine r_aload_n C hl 0 rfl rfl dX6_ranked_25 ?_
    refine r_iload_n C hl 1 rfl rfl dX6_ranked_26 ?_
    refine r_bipush C (v := 7) (by decide) dX6_ranked_27 ?_
    refine r_qVi C P cf_X6_37 (rm := rmX6_get) 19 0 (fun _ _ => ⟨_, rfl⟩) rfl rfl rfl [.int v1, .int ((7 : Int32))] [.int v6_9] hf (fun _ h => ctX6_get l G o v1 ((7 : Int32)) h) ⟨rfl, rfl⟩ ⟨Nat.le_of_ble_eq_true rfl, Nat.le_of_ble_eq_true rfl⟩ ⟨Nat.le_of_ble_eq_true rfl, Nat.le_of_ble_eq_true rfl⟩ rfl rfl hl.1 (Nat.le_of_ble_eq_true rfl) dX6_ranked_29 (fun r_10 H1 L1 P hf => ?_)
    refine r_icmp_ge C dX6_ranked_32 hf (fun hf => ?_) (fun hf => ?_)
    · exact j70 v5_8 _ _ _ P (lv_sub hl [0, 1, 2, 3, 4, 5] rfl) hf
    · refine r_iload C hl 5 rfl dX6_ranked_35 ?_
      refine r_aload_n C hl 0 rfl rfl dX6_ranked_37 ?_
      refine r_iload_n C hl 1 rfl rfl dX6_ranked_38 ?_
      refine r_iload C hl 6 rfl dX6_ranked_39 ?_
      refine r_iconst C (v := 0) (by decide) dX6_ranked_41 ?_
      refine r_qVi C P cf_X6_43 (rm := rmX6_pointOf) 19 0 (fun _ _ => ⟨_, rfl⟩) rfl rfl rfl [.int v1, .int v6_9, .int ((0 : Int32))] [.int v5_8] hf (fun _ h => ctX6_pointOf l G o v1 v6_9 ((0 : Int32)) h) ⟨rfl, rfl⟩ ⟨Nat.le_of_ble_eq_true rfl, Nat.le_of_ble_eq_true rfl⟩ ⟨Nat.le_of_ble_eq_true rfl, Nat.le_of_ble_eq_true rfl⟩ rfl rfl hl.1 (Nat.le_of_ble_eq_true rfl) dX6_ranked_42 (fun r_11 H1 L1 P hf => ?_)
      refine r_aload_n C hl 0 rfl rfl dX6_ranked_45 ?_
      refine r_iload_n C hl 1 rfl rfl dX6_ranked_46 ?_
      refine r_iload C hl 4 rfl dX6_ranked_47 ?_
      refine r_iconst C (v := 0) (by decide) dX6_ranked_49 ?_
      refine r_qVi C P cf_X6_43 (rm := rmX6_pointOf) 19 0 (fun _ _ => ⟨_, rfl⟩) rfl rfl rfl [.int v1, .int v4_3, .int ((0 : Int32))] [.int r_11, .int v5_8] hf (fun _ h => ctX6_pointOf l G o v1 v4_3 ((0 : Int32)) h) ⟨rfl, rfl⟩ ⟨Nat.le_of_ble_eq_true rfl, Nat.le_of_ble_eq_true rfl⟩ ⟨Nat.le_of_ble_eq_true rfl, Nat.le_of_ble_eq_true rfl⟩ rfl rfl hl.1 (Nat.le_of_ble_eq_true rfl) dX6_ranked_50 (fun r_12 H1 L1 P hf => ?_)
      refine r_jn (fun k61 : Int32 → Option Int32 => ∀ (s_13 : Int32) H1 L1 ls, Hp G o s H1 L1 → lv_has ls 7 [(0, .ref (rA G 19 0)), (1, .int v1), (2, .int v2), (3, .int v3_2), (4, .int v4_3), (6, .int v6_9)] → k61 s_13 = some r → W p l e rmX6_ranked s m args below meth c H1 L1 0 0 (Qm G (some (.int r)) o rmX6_ranked below args s) (F0 m 61 ls [.int s_13, .int v5_8])) hf ?_ (fun k61 j61 hf => ?_)
      · intro s_13 H1 L1 ls  P hl hf
        refine r_iadd2 C dX6_ranked_61 ?_
        refine r_bdi hf (fun v5_14 hf => ?_)
        refine r_istore C [(5, .int v5_14), (0, .ref (rA G 19 0)), (1, .int v1), (2, .int v2), (3, .int v3_2), (4, .int v4_3), (6, .int v6_9)] hl (by decide) rfl dX6_ranked_62 (fun ls hl => ?_)
        refine r_iinc C (fun v6_15 => [(6, .int v6_15), (5, .int v5_14), (0, .ref (rA G 19 0)), (1, .int v1), (2, .int v2), (3, .int v3_2), (4, .int v4_3)]) (w := 1) 6 hl rfl (by decide) (by decide) (fun _ => rfl) dX6_ranked_64 hf (fun v6_15 ls hl hf => ?_)
        refine r_goto C dX6_ranked_67 ?_
        exact ih v5_14 v6_15 _ _ _ P (lv_sub hl [2, 3, 4, 5, 6, 1, 0] rfl) hf
      refine r_icmp_ge C dX6_ranked_53 hf (fun hf => ?_) (fun hf => ?_)
      · refine r_iconst C (v := 0) (by decide) dX6_ranked_60 ?_
        exact j61 ((0 : Int32)) _ _ _ P (lv_sub hl [0, 1, 2, 3, 4, 6] rfl) hf
      · refine r_iconst C (v := 1) (by decide) dX6_ranked_56 ?_
        refine r_goto C dX6_ranked_57 ?_
        exact j61 ((1 : Int32)) _ _ _ P (lv_sub hl [0, 1, 2, 3, 4, 6] rfl) hf
set_option maxHeartbeats 4000000 in
set_option maxRecDepth 100000 in
theorem lX6_ranked_5 {G : Gd} {p : Program} {l : Launch} {e : Env} {s : State} {m : MethodId} {args : Array Value} {below : List Frame} {meth : Method} {c : Code} {r : Int32} {o : OM} {v1 : Int32} {v2 : Int32} (C : Cx G RX6 cX6_ranked 7 (some .int) p s m args meth c)  {k89 : Int32 → Option Int32} (j89 : ∀ (v3_1 : Int32) H1 L1 ls, Hp G o s H1 L1 → lv_has ls 7 [(3, .int v3_1)] → k89 v3_1 = some r → W p l e rmX6_ranked s m args below meth c H1 L1 0 0 (Qm G (some (.int r)) o rmX6_ranked below args s) (F0 m 89 ls [])) : ∀ (n : Nat) (v3_2 : Int32) (v4_3 : Int32) H1 L1 ls, Hp G o s H1 L1 → lv_has ls 7 [(0, .ref (rA G 19 0)), (1, .int v1), (2, .int v2), (3, .int v3_2), (4, .int v4_3)] → LX6_ranked_5 k89 o v1 v2 n v3_2 v4_3 = some r → W p l e rmX6_ranked s m args below meth c H1 L1 0 0 (Qm G (some (.int r)) o rmX6_ranked below args s) (F0 m 5 ls []) := by
  intro n
  induction n with
  | zero =>
    intro v3_2 v4_3 H1 L1 ls P hl hf
    exact nomatch hf
  | succ n ih =>
    intro v3_2 v4_3 H1 L1 ls P hl hf
    rw [LX6_ranked_5.eq_2] at hf
    refine r_iload C hl 4 rfl dX6_ranked_5 ?_
    refine r_aload_n C hl 0 rfl rfl dX6_ranked_7 ?_
    refine r_iload_n C hl 1 rfl rfl dX6_ranked_8 ?_
    refine r_bipush C (v := 7) (by decide) dX6_ranked_9 ?_
    refine r_qVi C P cf_X6_37 (rm := rmX6_get) 19 0 (fun _ _ => ⟨_, rfl⟩) rfl rfl rfl [.int v1, .int ((7 : Int32))] [.int v4_3] hf (fun _ h => ctX6_get l G o v1 ((7 : Int32)) h) ⟨rfl, rfl⟩ ⟨Nat.le_of_ble_eq_true rfl, Nat.le_of_ble_eq_true rfl⟩ ⟨Nat.le_of_ble_eq_true rfl, Nat.le_of_ble_eq_true rfl⟩ rfl rfl hl.1 (Nat.le_of_ble_eq_true rfl) dX6_ranked_11 (fun r_4 H1 L1 P hf => ?_)
    refine r_icmp_ge C dX6_ranked_14 hf (fun hf => ?_) (fun hf => ?_)
    · exact j89 v3_2 _ _ _ P (lv_sub hl [3] rfl) hf
    · refine r_iconst C (v := 0) (by decide) dX6_ranked_17 ?_
      refine r_istore C [(5, .int ((0 : Int32))), (0, .ref (rA G 19 0)), (1, .int v1), (2, .int v2), (3, .int v3_2), (4, .int v4_3)] hl (by decide) rfl dX6_ranked_18 (fun ls hl => ?_)
      refine r_iconst C (v := 0) (by decide) dX6_ranked_20 ?_
      refine r_istore C [(6, .int ((0 : Int32))), (5, .int ((0 : Int32))), (0, .ref (rA G 19 0)), (1, .int v1), (2, .int v2), (3, .int v3_2), (4, .int v4_3)] hl (by decide) rfl dX6_ranked_21 (fun ls hl => ?_)
      refine r_jn (fun k70 : Int32 → Option Int32 => ∀ (v5_5 : Int32) H1 L1 ls, Hp G o s H1 L1 → lv_has ls 7 [(0, .ref (rA G 19 0)), (1, .int v1), (2, .int v2), (3, .int v3_2), (4, .int v4_3), (5, .int v5_5)] → k70 v5_5 = some r → W p l e rmX6_ranked s m args below meth c H1 L1 0 0 (Qm G (some (.int r)) o rmX6_ranked below args s) (F0 m 70 ls [])) hf ?_ (fun k70 j70 hf => ?_)
      · intro v5_5 H1 L1 ls  P hl hf
        refine r_iload C hl 5 rfl dX6_ranked_70 ?_
        refine r_iload_n C hl 2 rfl rfl dX6_ranked_72 ?_
        refine r_jn (fun k82 : Int32 → Option Int32 => ∀ (s_6 : Int32) H1 L1 ls, Hp G o s H1 L1 → lv_has ls 7 [(0, .ref (rA G 19 0)), (1, .int v1), (2, .int v2), (4, .int v4_3)] → k82 s_6 = some r → W p l e rmX6_ranked s m args below meth c H1 L1 0 0 (Qm G (some (.int r)) o rmX6_ranked below args s) (F0 m 82 ls [.int s_6])) hf ?_ (fun k82 j82 hf => ?_)
        · intro s_6 H1 L1 ls  P hl hf
          refine r_istore_n C [(3, .int s_6), (0, .ref (rA G 19 0)), (1, .int v1), (2, .int v2), (4, .int v4_3)] hl (by decide) rfl rfl dX6_ranked_82 (fun ls hl => ?_)
          refine r_iinc C (fun v4_7 => [(4, .int v4_7), (3, .int s_6), (0, .ref (rA G 19 0)), (1, .int v1), (2, .int v2)]) (w := 1) 4 hl rfl (by decide) (by decide) (fun _ => rfl) dX6_ranked_83 hf (fun v4_7 ls hl hf => ?_)
          refine r_goto C dX6_ranked_86 ?_
          exact ih s_6 v4_7 _ _ _ P (lv_sub hl [2, 3, 4, 1, 0] rfl) hf
        refine r_icmp_ne C dX6_ranked_73 hf (fun hf => ?_) (fun hf => ?_)
        · refine r_iload_n C hl 3 rfl rfl dX6_ranked_81 ?_
          exact j82 v3_2 _ _ _ P (lv_sub hl [0, 1, 2, 4] rfl) hf
        · refine r_iload C hl 4 rfl dX6_ranked_76 ?_
          refine r_goto C dX6_ranked_78 ?_
          exact j82 v4_3 _ _ _ P (lv_sub hl [0, 1, 2, 4] rfl) hf
      exact lX6_ranked_23 C  j70 FU ((0 : Int32)) ((0 : Int32)) _ _ _ P (lv_sub hl [2, 3, 4, 5, 6, 1, 0] rfl) hf
set_option maxHeartbeats 4000000 in
set_option maxRecDepth 100000 in
theorem wX6_ranked {G : Gd} {p : Program} {l : Launch} {e : Env} {s : State} {m : MethodId} {args : Array Value} {below : List Frame} {meth : Method} {c : Code} {o : OM} {H : Heap} {L0 : List Loc} {ls : Array Slot} {r : Int32} {v1 : Int32} {v2 : Int32} (C : Cx G RX6 cX6_ranked 7 (some .int) p s m args meth c)  (P : Hp G o s H L0) (hl : lv_has ls 7 [(0, .ref (rA G 19 0)), (1, .int v1), (2, .int v2)]) (hf : F_X6_ranked o v1 v2 = some r) : W p l e rmX6_ranked s m args below meth c H L0 0 0 (Qm G (some (.int r)) o rmX6_ranked below args s) (F0 m 0 ls []) := by
  unfold F_X6_ranked at hf
  refine r_iconst C (v := -1) (by decide) dX6_ranked_0 ?_
  refine r_istore_n C [(3, .int ((-1 : Int32))), (0, .ref (rA G 19 0)), (1, .int v1), (2, .int v2)] hl (by decide) rfl rfl dX6_ranked_1 (fun ls hl => ?_)
  refine r_iconst C (v := 0) (by decide) dX6_ranked_2 ?_
  refine r_istore C [(4, .int ((0 : Int32))), (3, .int ((-1 : Int32))), (0, .ref (rA G 19 0)), (1, .int v1), (2, .int v2)] hl (by decide) rfl dX6_ranked_3 (fun ls hl => ?_)
  refine r_jn (fun k89 : Int32 → Option Int32 => ∀ (v3_1 : Int32) H1 L1 ls, Hp G o s H1 L1 → lv_has ls 7 [(3, .int v3_1)] → k89 v3_1 = some r → W p l e rmX6_ranked s m args below meth c H1 L1 0 0 (Qm G (some (.int r)) o rmX6_ranked below args s) (F0 m 89 ls [])) hf ?_ (fun k89 j89 hf => ?_)
  · intro v3_1 H1 L1 ls  P hl hf
    refine r_iload_n C hl 0 rfl rfl dX6_ranked_89 ?_
    exact q_iret C P (rm := rmX6_ranked) ⟨rfl, rfl⟩ dX6_ranked_90 hf
  exact lX6_ranked_5 C  j89 FU ((-1 : Int32)) ((0 : Int32)) _ _ _ P (lv_sub hl [2, 3, 4, 1, 0] rfl) hf
theorem ctX6_ranked (l : Launch) (G : Gd) (o : OM) (v1 : Int32) (v2 : Int32)  {r : Int32} (hf : F_X6_ranked o v1 v2 = some r) : Ct l yX6_ranked cX6_ranked 7 (some .int) rmX6_ranked G [.ref (rA G 19 0), .int v1, .int v2] o (some (.int r)) o := ct_of (by decide +kernel) (Nat.le_of_ble_eq_true rfl) (fun p e s m below meth c ls C P hl => wX6_ranked C  P hl hf)
theorem cf_X6_64 : CallF false RX6 64 yX6_ranked cX6_ranked 7 (some .int) 2 := ⟨wd_1063, (by rw [if_neg (by decide)]; exact ⟨wd_1065, wd_41⟩), wd_71, wd_1066, by decide, by decide +kernel⟩
theorem dX6_correction_0 : Dc cX6_correction 0 (.aload_n 0) 1 1 := ⟨by decide +kernel, rfl⟩
theorem dX6_correction_1 : Dc cX6_correction 1 (.iload_n 1) 1 2 := ⟨by decide +kernel, rfl⟩
theorem dX6_correction_2 : Dc cX6_correction 2 (.bipush 7) 2 4 := ⟨by decide +kernel, rfl⟩
theorem dX6_correction_4 : Dc cX6_correction 4 (.invokevirtual 37) 3 7 := ⟨by decide +kernel, rfl⟩
theorem dX6_correction_7 : Dc cX6_correction 7 (.istore_n 3) 1 8 := ⟨by decide +kernel, rfl⟩
theorem dX6_correction_8 : Dc cX6_correction 8 (.iconst 0) 1 9 := ⟨by decide +kernel, rfl⟩
theorem dX6_correction_9 : Dc cX6_correction 9 (.istore 4) 2 11 := ⟨by decide +kernel, rfl⟩
theorem dX6_correction_11 : Dc cX6_correction 11 (.iconst 0) 1 12 := ⟨by decide +kernel, rfl⟩
theorem dX6_correction_12 : Dc cX6_correction 12 (.istore 5) 2 14 := ⟨by decide +kernel, rfl⟩
theorem dX6_correction_14 : Dc cX6_correction 14 (.iload 5) 2 16 := ⟨by decide +kernel, rfl⟩
theorem dX6_correction_16 : Dc cX6_correction 16 (.iload_n 3) 1 17 := ⟨by decide +kernel, rfl⟩
theorem dX6_correction_17 : Dj cX6_correction 17 (.if_icmp .ge 31) 3 20 (31) 48 := ⟨by decide +kernel, rfl, by decide⟩
theorem dX6_correction_20 : Dc cX6_correction 20 (.iload 4) 2 22 := ⟨by decide +kernel, rfl⟩
theorem dX6_correction_22 : Dc cX6_correction 22 (.aload_n 0) 1 23 := ⟨by decide +kernel, rfl⟩
theorem dX6_correction_23 : Dc cX6_correction 23 (.iload_n 1) 1 24 := ⟨by decide +kernel, rfl⟩
theorem dX6_correction_24 : Dc cX6_correction 24 (.iload 5) 2 26 := ⟨by decide +kernel, rfl⟩
theorem dX6_correction_26 : Dc cX6_correction 26 (.iconst 0) 1 27 := ⟨by decide +kernel, rfl⟩
theorem dX6_correction_27 : Dc cX6_correction 27 (.invokevirtual 43) 3 30 := ⟨by decide +kernel, rfl⟩
theorem dX6_correction_30 : Dc cX6_correction 30 (.iload_n 2) 1 31 := ⟨by decide +kernel, rfl⟩
theorem dX6_correction_31 : Dj cX6_correction 31 (.if_icmp .gt 7) 3 34 (7) 38 := ⟨by decide +kernel, rfl, by decide⟩
theorem dX6_correction_34 : Dc cX6_correction 34 (.iconst 1) 1 35 := ⟨by decide +kernel, rfl⟩
theorem dX6_correction_35 : Dj cX6_correction 35 (.goto 4) 3 38 (4) 39 := ⟨by decide +kernel, rfl, by decide⟩
theorem dX6_correction_38 : Dc cX6_correction 38 (.iconst 0) 1 39 := ⟨by decide +kernel, rfl⟩
theorem dX6_correction_39 : Dc cX6_correction 39 (.iadd) 1 40 := ⟨by decide +kernel, rfl⟩
theorem dX6_correction_40 : Dc cX6_correction 40 (.istore 4) 2 42 := ⟨by decide +kernel, rfl⟩
theorem dX6_correction_42 : Dc cX6_correction 42 (.iinc 5 1) 3 45 := ⟨by decide +kernel, rfl⟩
theorem dX6_correction_45 : Dj cX6_correction 45 (.goto (-31)) 3 48 (-31) 14 := ⟨by decide +kernel, rfl, by decide⟩
theorem dX6_correction_48 : Dc cX6_correction 48 (.iload 4) 2 50 := ⟨by decide +kernel, rfl⟩
theorem dX6_correction_50 : Dj cX6_correction 50 (.ifCond .ne 7) 3 53 (7) 57 := ⟨by decide +kernel, rfl, by decide⟩
theorem dX6_correction_53 : Dc cX6_correction 53 (.iconst 0) 1 54 := ⟨by decide +kernel, rfl⟩
theorem dX6_correction_54 : Dj cX6_correction 54 (.goto 19) 3 57 (19) 73 := ⟨by decide +kernel, rfl, by decide⟩
theorem dX6_correction_57 : Dc cX6_correction 57 (.iload 4) 2 59 := ⟨by decide +kernel, rfl⟩
theorem dX6_correction_59 : Dc cX6_correction 59 (.iload_n 3) 1 60 := ⟨by decide +kernel, rfl⟩
theorem dX6_correction_60 : Dj cX6_correction 60 (.if_icmp .ne 9) 3 63 (9) 69 := ⟨by decide +kernel, rfl, by decide⟩
theorem dX6_correction_63 : Dc cX6_correction 63 (.iload_n 3) 1 64 := ⟨by decide +kernel, rfl⟩
theorem dX6_correction_64 : Dc cX6_correction 64 (.iconst 2) 1 65 := ⟨by decide +kernel, rfl⟩
theorem dX6_correction_65 : Dc cX6_correction 65 (.isub) 1 66 := ⟨by decide +kernel, rfl⟩
theorem dX6_correction_66 : Dj cX6_correction 66 (.goto 7) 3 69 (7) 73 := ⟨by decide +kernel, rfl, by decide⟩
theorem dX6_correction_69 : Dc cX6_correction 69 (.iload 4) 2 71 := ⟨by decide +kernel, rfl⟩
theorem dX6_correction_71 : Dc cX6_correction 71 (.iconst 1) 1 72 := ⟨by decide +kernel, rfl⟩
theorem dX6_correction_72 : Dc cX6_correction 72 (.isub) 1 73 := ⟨by decide +kernel, rfl⟩
theorem dX6_correction_73 : Dc cX6_correction 73 (.istore 5) 2 75 := ⟨by decide +kernel, rfl⟩
theorem dX6_correction_75 : Dc cX6_correction 75 (.aload_n 0) 1 76 := ⟨by decide +kernel, rfl⟩
theorem dX6_correction_76 : Dc cX6_correction 76 (.iload_n 1) 1 77 := ⟨by decide +kernel, rfl⟩
theorem dX6_correction_77 : Dc cX6_correction 77 (.iload 5) 2 79 := ⟨by decide +kernel, rfl⟩
theorem dX6_correction_79 : Dc cX6_correction 79 (.invokevirtual 64) 3 82 := ⟨by decide +kernel, rfl⟩
theorem dX6_correction_82 : Dc cX6_correction 82 (.istore 6) 2 84 := ⟨by decide +kernel, rfl⟩
theorem dX6_correction_84 : Dc cX6_correction 84 (.aload_n 0) 1 85 := ⟨by decide +kernel, rfl⟩
theorem dX6_correction_85 : Dc cX6_correction 85 (.iload_n 1) 1 86 := ⟨by decide +kernel, rfl⟩
theorem dX6_correction_86 : Dc cX6_correction 86 (.iload 5) 2 88 := ⟨by decide +kernel, rfl⟩
theorem dX6_correction_88 : Dc cX6_correction 88 (.iconst 1) 1 89 := ⟨by decide +kernel, rfl⟩
theorem dX6_correction_89 : Dc cX6_correction 89 (.iadd) 1 90 := ⟨by decide +kernel, rfl⟩
theorem dX6_correction_90 : Dc cX6_correction 90 (.invokevirtual 64) 3 93 := ⟨by decide +kernel, rfl⟩
theorem dX6_correction_93 : Dc cX6_correction 93 (.istore 7) 2 95 := ⟨by decide +kernel, rfl⟩
theorem dX6_correction_95 : Dc cX6_correction 95 (.aload_n 0) 1 96 := ⟨by decide +kernel, rfl⟩
theorem dX6_correction_96 : Dc cX6_correction 96 (.iload_n 1) 1 97 := ⟨by decide +kernel, rfl⟩
theorem dX6_correction_97 : Dc cX6_correction 97 (.iload 6) 2 99 := ⟨by decide +kernel, rfl⟩
theorem dX6_correction_99 : Dc cX6_correction 99 (.iconst 0) 1 100 := ⟨by decide +kernel, rfl⟩
theorem dX6_correction_100 : Dc cX6_correction 100 (.invokevirtual 43) 3 103 := ⟨by decide +kernel, rfl⟩
theorem dX6_correction_103 : Dc cX6_correction 103 (.istore 8) 2 105 := ⟨by decide +kernel, rfl⟩
theorem dX6_correction_105 : Dc cX6_correction 105 (.aload_n 0) 1 106 := ⟨by decide +kernel, rfl⟩
theorem dX6_correction_106 : Dc cX6_correction 106 (.iload_n 1) 1 107 := ⟨by decide +kernel, rfl⟩
theorem dX6_correction_107 : Dc cX6_correction 107 (.iload 6) 2 109 := ⟨by decide +kernel, rfl⟩
theorem dX6_correction_109 : Dc cX6_correction 109 (.iconst 1) 1 110 := ⟨by decide +kernel, rfl⟩
theorem dX6_correction_110 : Dc cX6_correction 110 (.invokevirtual 43) 3 113 := ⟨by decide +kernel, rfl⟩
theorem dX6_correction_113 : Dc cX6_correction 113 (.istore 9) 2 115 := ⟨by decide +kernel, rfl⟩
theorem dX6_correction_115 : Dc cX6_correction 115 (.iload 9) 2 117 := ⟨by decide +kernel, rfl⟩
theorem dX6_correction_117 : Dc cX6_correction 117 (.aload_n 0) 1 118 := ⟨by decide +kernel, rfl⟩
theorem dX6_correction_118 : Dc cX6_correction 118 (.iload_n 1) 1 119 := ⟨by decide +kernel, rfl⟩
theorem dX6_correction_119 : Dc cX6_correction 119 (.iload 7) 2 121 := ⟨by decide +kernel, rfl⟩
theorem dX6_correction_121 : Dc cX6_correction 121 (.iconst 1) 1 122 := ⟨by decide +kernel, rfl⟩
theorem dX6_correction_122 : Dc cX6_correction 122 (.invokevirtual 43) 3 125 := ⟨by decide +kernel, rfl⟩
theorem dX6_correction_125 : Dc cX6_correction 125 (.iload 9) 2 127 := ⟨by decide +kernel, rfl⟩
theorem dX6_correction_127 : Dc cX6_correction 127 (.isub) 1 128 := ⟨by decide +kernel, rfl⟩
theorem dX6_correction_128 : Dc cX6_correction 128 (.iload_n 2) 1 129 := ⟨by decide +kernel, rfl⟩
theorem dX6_correction_129 : Dc cX6_correction 129 (.iload 8) 2 131 := ⟨by decide +kernel, rfl⟩
theorem dX6_correction_131 : Dc cX6_correction 131 (.isub) 1 132 := ⟨by decide +kernel, rfl⟩
theorem dX6_correction_132 : Dc cX6_correction 132 (.imul) 1 133 := ⟨by decide +kernel, rfl⟩
theorem dX6_correction_133 : Dc cX6_correction 133 (.aload_n 0) 1 134 := ⟨by decide +kernel, rfl⟩
theorem dX6_correction_134 : Dc cX6_correction 134 (.iload_n 1) 1 135 := ⟨by decide +kernel, rfl⟩
theorem dX6_correction_135 : Dc cX6_correction 135 (.iload 7) 2 137 := ⟨by decide +kernel, rfl⟩
theorem dX6_correction_137 : Dc cX6_correction 137 (.iconst 0) 1 138 := ⟨by decide +kernel, rfl⟩
theorem dX6_correction_138 : Dc cX6_correction 138 (.invokevirtual 43) 3 141 := ⟨by decide +kernel, rfl⟩
theorem dX6_correction_141 : Dc cX6_correction 141 (.iload 8) 2 143 := ⟨by decide +kernel, rfl⟩
theorem dX6_correction_143 : Dc cX6_correction 143 (.isub) 1 144 := ⟨by decide +kernel, rfl⟩
theorem dX6_correction_144 : Dc cX6_correction 144 (.invokestatic 40) 3 147 := ⟨by decide +kernel, rfl⟩
theorem dX6_correction_147 : Dc cX6_correction 147 (.iadd) 1 148 := ⟨by decide +kernel, rfl⟩
theorem dX6_correction_148 : Dc cX6_correction 148 (.ireturn) 1 149 := ⟨by decide +kernel, rfl⟩
def LX6_correction_14 (k48 : Int32 → Option Int32) (r_1 : Int32) (o : OM) (v1 : Int32) (v2 : Int32) : Nat → Int32 → Int32 → Option Int32
  | 0 => fun _ _ => none
  | n + 1 => fun v4_11 v5_12 => if r_1 ≤ v5_12 then (k48 v4_11) else (bq (F_X6_pointOf o v1 v5_12 ((0 : Int32))) (fun r_13 => bd (fun (s_14 : Int32) => bd (v4_11 + s_14) (fun v4_15 : Int32 => bd (v5_12 + (1 : Int32)) (fun v5_16 : Int32 => (LX6_correction_14 k48 r_1 o v1 v2 n) v4_15 v5_16))) (fun k39 => if v2 < r_13 then (k39 ((0 : Int32))) else (k39 ((1 : Int32))))))
def F_X6_correction (o : OM) (v1 : Int32) (v2 : Int32) : Option Int32 := bq (F_X6_get o v1 ((7 : Int32))) (fun r_1 => bd (fun (v4_2 : Int32) => bd (fun (s_3 : Int32) => bq (F_X6_ranked o v1 s_3) (fun r_4 => bq (F_X6_ranked o v1 (s_3 + ((1 : Int32)))) (fun r_5 => bq (F_X6_pointOf o v1 r_4 ((0 : Int32))) (fun r_6 => bq (F_X6_pointOf o v1 r_4 ((1 : Int32))) (fun r_7 => bq (F_X6_pointOf o v1 r_5 ((1 : Int32))) (fun r_8 => bq (F_X6_pointOf o v1 r_5 ((0 : Int32))) (fun r_9 => bq (F_X6_divided o ((r_8 - r_7) * (v2 - r_6)) (r_9 - r_6)) (fun r_10 => some (r_7 + r_10))))))))) (fun k73 => if v4_2 = 0 then (k73 ((0 : Int32))) else (if v4_2 = r_1 then (k73 (r_1 - ((2 : Int32)))) else (k73 (v4_2 - ((1 : Int32))))))) (fun k48 => LX6_correction_14 k48 r_1 o v1 v2 FU ((0 : Int32)) ((0 : Int32))))
abbrev rmX6_correction : Room := { frames := 3, cells := 0, slots := 0, locals := 70 }
set_option maxHeartbeats 4000000 in
set_option maxRecDepth 100000 in
theorem lX6_correction_14 {G : Gd} {p : Program} {l : Launch} {e : Env} {s : State} {m : MethodId} {args : Array Value} {below : List Frame} {meth : Method} {c : Code} {r : Int32} {r_1 : Int32} {o : OM} {v1 : Int32} {v2 : Int32} (C : Cx G RX6 cX6_correction 10 (some .int) p s m args meth c)  {k48 : Int32 → Option Int32} (j48 : ∀ (v4_2 : Int32) H1 L1 ls, Hp G o s H1 L1 → lv_has ls 10 [(0, .ref (rA G 19 0)), (1, .int v1), (2, .int v2), (3, .int r_1), (4, .int v4_2)] → k48 v4_2 = some r → W p l e rmX6_correction s m args below meth c H1 L1 0 0 (Qm G (some (.int r)) o rmX6_correction below args s) (F0 m 48 ls [])) : ∀ (n : Nat) (v4_11 : Int32) (v5_12 : Int32) H1 L1 ls, Hp G o s H1 L1 → lv_has ls 10 [(0, .ref (rA G 19 0)), (1, .int v1), (2, .int v2), (3, .int r_1), (4, .int v4_11), (5, .int v5_12)] → LX6_correction_14 k48 r_1 o v1 v2 n v4_11 v5_12 = some r → W p l e rmX6_correction s m args below meth c H1 L1 0 0 (Qm G (some (.int r)) o rmX6_correction below args s) (F0 m 14 ls []) := by
  intro n
  induction n with
  | zero =>
    intro v4_11 v5_12 H1 L1 ls P hl hf
    exact nomatch hf
  | succ n ih =>
    intro v4_11 v5_12 H1 L1 ls P hl hf
    rw [LX6_correction_14.eq_2] at hf
    refine r_iload C hl 5 rfl dX6_correction_14 ?_
    refine r_iload_n C hl 3 rfl rfl dX6_correction_16 ?_
    refine r_icmp_ge C dX6_correction_17 hf (fun hf => ?_) (fun hf => ?_)
    · exact j48 v4_11 _ _ _ P (lv_sub hl [0, 1, 2, 3, 4] rfl) hf
    · refine r_iload C hl 4 rfl dX6_correction_20 ?_
      refine r_aload_n C hl 0 rfl rfl dX6_correction_22 ?_
      refine r_iload_n C hl 1 rfl rfl dX6_correction_23 ?_
      refine r_iload C hl 5 rfl dX6_correction_24 ?_
      refine r_iconst C (v := 0) (by decide) dX6_correction_26 ?_
      refine r_qVi C P cf_X6_43 (rm := rmX6_pointOf) 19 0 (fun _ _ => ⟨_, rfl⟩) rfl rfl rfl [.int v1, .int v5_12, .int ((0 : Int32))] [.int v4_11] hf (fun _ h => ctX6_pointOf l G o v1 v5_12 ((0 : Int32)) h) ⟨rfl, rfl⟩ ⟨Nat.le_of_ble_eq_true rfl, Nat.le_of_ble_eq_true rfl⟩ ⟨Nat.le_of_ble_eq_true rfl, Nat.le_of_ble_eq_true rfl⟩ rfl rfl hl.1 (Nat.le_of_ble_eq_true rfl) dX6_correction_27 (fun r_13 H1 L1 P hf => ?_)
      refine r_iload_n C hl 2 rfl rfl dX6_correction_30 ?_
      refine r_jn (fun k39 : Int32 → Option Int32 => ∀ (s_14 : Int32) H1 L1 ls, Hp G o s H1 L1 → lv_has ls 10 [(0, .ref (rA G 19 0)), (1, .int v1), (2, .int v2), (3, .int r_1), (5, .int v5_12)] → k39 s_14 = some r → W p l e rmX6_correction s m args below meth c H1 L1 0 0 (Qm G (some (.int r)) o rmX6_correction below args s) (F0 m 39 ls [.int s_14, .int v4_11])) hf ?_ (fun k39 j39 hf => ?_)
      · intro s_14 H1 L1 ls  P hl hf
        refine r_iadd2 C dX6_correction_39 ?_
        refine r_bdi hf (fun v4_15 hf => ?_)
        refine r_istore C [(4, .int v4_15), (0, .ref (rA G 19 0)), (1, .int v1), (2, .int v2), (3, .int r_1), (5, .int v5_12)] hl (by decide) rfl dX6_correction_40 (fun ls hl => ?_)
        refine r_iinc C (fun v5_16 => [(5, .int v5_16), (4, .int v4_15), (0, .ref (rA G 19 0)), (1, .int v1), (2, .int v2), (3, .int r_1)]) (w := 1) 5 hl rfl (by decide) (by decide) (fun _ => rfl) dX6_correction_42 hf (fun v5_16 ls hl hf => ?_)
        refine r_goto C dX6_correction_45 ?_
        exact ih v4_15 v5_16 _ _ _ P (lv_sub hl [2, 3, 4, 5, 1, 0] rfl) hf
      refine r_icmp_gt C dX6_correction_31 hf (fun hf => ?_) (fun hf => ?_)
      · refine r_iconst C (v := 0) (by decide) dX6_correction_38 ?_
        exact j39 ((0 : Int32)) _ _ _ P (lv_sub hl [0, 1, 2, 3, 5] rfl) hf
      · refine r_iconst C (v := 1) (by decide) dX6_correction_34 ?_
        refine r_goto C dX6_correction_35 ?_
        exact j39 ((1 : Int32)) _ _ _ P (lv_sub hl [0, 1, 2, 3, 5] rfl) hf
set_option maxHeartbeats 4000000 in
set_option maxRecDepth 100000 in
theorem wX6_correction {G : Gd} {p : Program} {l : Launch} {e : Env} {s : State} {m : MethodId} {args : Array Value} {below : List Frame} {meth : Method} {c : Code} {o : OM} {H : Heap} {L0 : List Loc} {ls : Array Slot} {r : Int32} {v1 : Int32} {v2 : Int32} (C : Cx G RX6 cX6_correction 10 (some .int) p s m args meth c)  (P : Hp G o s H L0) (hl : lv_has ls 10 [(0, .ref (rA G 19 0)), (1, .int v1), (2, .int v2)]) (hf : F_X6_correction o v1 v2 = some r) : W p l e rmX6_correction s m args below meth c H L0 0 0 (Qm G (some (.int r)) o rmX6_correction below args s) (F0 m 0 ls []) := by
  unfold F_X6_correction at hf
  refine r_aload_n C hl 0 rfl rfl dX6_correction_0 ?_
  refine r_iload_n C hl 1 rfl rfl dX6_correction_1 ?_
  refine r_bipush C (v := 7) (by decide) dX6_correction_2 ?_
  refine r_qVi C P cf_X6_37 (rm := rmX6_get) 19 0 (fun _ _ => ⟨_, rfl⟩) rfl rfl rfl [.int v1, .int ((7 : Int32))] [] hf (fun _ h => ctX6_get l G o v1 ((7 : Int32)) h) ⟨rfl, rfl⟩ ⟨Nat.le_of_ble_eq_true rfl, Nat.le_of_ble_eq_true rfl⟩ ⟨Nat.le_of_ble_eq_true rfl, Nat.le_of_ble_eq_true rfl⟩ rfl rfl hl.1 (Nat.le_of_ble_eq_true rfl) dX6_correction_4 (fun r_1 H1 L1 P hf => ?_)
  refine r_istore_n C [(3, .int r_1), (0, .ref (rA G 19 0)), (1, .int v1), (2, .int v2)] hl (by decide) rfl rfl dX6_correction_7 (fun ls hl => ?_)
  refine r_iconst C (v := 0) (by decide) dX6_correction_8 ?_
  refine r_istore C [(4, .int ((0 : Int32))), (3, .int r_1), (0, .ref (rA G 19 0)), (1, .int v1), (2, .int v2)] hl (by decide) rfl dX6_correction_9 (fun ls hl => ?_)
  refine r_iconst C (v := 0) (by decide) dX6_correction_11 ?_
  refine r_istore C [(5, .int ((0 : Int32))), (4, .int ((0 : Int32))), (3, .int r_1), (0, .ref (rA G 19 0)), (1, .int v1), (2, .int v2)] hl (by decide) rfl dX6_correction_12 (fun ls hl => ?_)
  refine r_jn (fun k48 : Int32 → Option Int32 => ∀ (v4_2 : Int32) H1 L1 ls, Hp G o s H1 L1 → lv_has ls 10 [(0, .ref (rA G 19 0)), (1, .int v1), (2, .int v2), (3, .int r_1), (4, .int v4_2)] → k48 v4_2 = some r → W p l e rmX6_correction s m args below meth c H1 L1 0 0 (Qm G (some (.int r)) o rmX6_correction below args s) (F0 m 48 ls [])) hf ?_ (fun k48 j48 hf => ?_)
  · intro v4_2 H1 L1 ls  P hl hf
    refine r_iload C hl 4 rfl dX6_correction_48 ?_
    refine r_jn (fun k73 : Int32 → Option Int32 => ∀ (s_3 : Int32) H1 L1 ls, Hp G o s H1 L1 → lv_has ls 10 [(0, .ref (rA G 19 0)), (1, .int v1), (2, .int v2)] → k73 s_3 = some r → W p l e rmX6_correction s m args below meth c H1 L1 0 0 (Qm G (some (.int r)) o rmX6_correction below args s) (F0 m 73 ls [.int s_3])) hf ?_ (fun k73 j73 hf => ?_)
    · intro s_3 H1 L1 ls  P hl hf
      refine r_istore C [(5, .int s_3), (0, .ref (rA G 19 0)), (1, .int v1), (2, .int v2)] hl (by decide) rfl dX6_correction_73 (fun ls hl => ?_)
      refine r_aload_n C hl 1 rfl rfl dX6_correction_75 ?_
      refine r_iload_n C hl 2 rfl rfl dX6_correction_76 ?_
      refine r_iload C hl 0 rfl dX6_correction_77 ?_
      refine r_qVi C P cf_X6_64 (rm := rmX6_ranked) 19 0 (fun _ _ => ⟨_, rfl⟩) rfl rfl rfl [.int v1, .int s_3] [] hf (fun _ h => ctX6_ranked l G o v1 s_3 h) ⟨rfl, rfl⟩ ⟨Nat.le_of_ble_eq_true rfl, Nat.le_of_ble_eq_true rfl⟩ ⟨Nat.le_of_ble_eq_true rfl, Nat.le_of_ble_eq_true rfl⟩ rfl rfl hl.1 (Nat.le_of_ble_eq_true rfl) dX6_correction_79 (fun r_4 H1 L1 P hf => ?_)
      refine r_istore C [(6, .int r_4), (5, .int s_3), (0, .ref (rA G 19 0)), (1, .int v1), (2, .int v2)] hl (by decide) rfl dX6_correction_82 (fun ls hl => ?_)
      refine r_aload_n C hl 2 rfl rfl dX6_correction_84 ?_
      refine r_iload_n C hl 3 rfl rfl dX6_correction_85 ?_
      refine r_iload C hl 1 rfl dX6_correction_86 ?_
      refine r_iconst C (v := 1) (by decide) dX6_correction_88 ?_
      refine r_iadd2 C dX6_correction_89 ?_
      refine r_qVi C P cf_X6_64 (rm := rmX6_ranked) 19 0 (fun _ _ => ⟨_, rfl⟩) rfl rfl rfl [.int v1, .int (s_3 + ((1 : Int32)))] [] hf (fun _ h => ctX6_ranked l G o v1 (s_3 + ((1 : Int32))) h) ⟨rfl, rfl⟩ ⟨Nat.le_of_ble_eq_true rfl, Nat.le_of_ble_eq_true rfl⟩ ⟨Nat.le_of_ble_eq_true rfl, Nat.le_of_ble_eq_true rfl⟩ rfl rfl hl.1 (Nat.le_of_ble_eq_true rfl) dX6_correction_90 (fun r_5 H1 L1 P hf => ?_)
      refine r_istore C [(7, .int r_5), (6, .int r_4), (5, .int s_3), (0, .ref (rA G 19 0)), (1, .int v1), (2, .int v2)] hl (by decide) rfl dX6_correction_93 (fun ls hl => ?_)
      refine r_aload_n C hl 3 rfl rfl dX6_correction_95 ?_
      refine r_iload_n C hl 4 rfl rfl dX6_correction_96 ?_
      refine r_iload C hl 1 rfl dX6_correction_97 ?_
      refine r_iconst C (v := 0) (by decide) dX6_correction_99 ?_
      refine r_qVi C P cf_X6_43 (rm := rmX6_pointOf) 19 0 (fun _ _ => ⟨_, rfl⟩) rfl rfl rfl [.int v1, .int r_4, .int ((0 : Int32))] [] hf (fun _ h => ctX6_pointOf l G o v1 r_4 ((0 : Int32)) h) ⟨rfl, rfl⟩ ⟨Nat.le_of_ble_eq_true rfl, Nat.le_of_ble_eq_true rfl⟩ ⟨Nat.le_of_ble_eq_true rfl, Nat.le_of_ble_eq_true rfl⟩ rfl rfl hl.1 (Nat.le_of_ble_eq_true rfl) dX6_correction_100 (fun r_6 H1 L1 P hf => ?_)
      refine r_istore C [(8, .int r_6), (7, .int r_5), (6, .int r_4), (5, .int s_3), (0, .ref (rA G 19 0)), (1, .int v1), (2, .int v2)] hl (by decide) rfl dX6_correction_103 (fun ls hl => ?_)
      refine r_aload_n C hl 4 rfl rfl dX6_correction_105 ?_
      refine r_iload_n C hl 5 rfl rfl dX6_correction_106 ?_
      refine r_iload C hl 2 rfl dX6_correction_107 ?_
      refine r_iconst C (v := 1) (by decide) dX6_correction_109 ?_
      refine r_qVi C P cf_X6_43 (rm := rmX6_pointOf) 19 0 (fun _ _ => ⟨_, rfl⟩) rfl rfl rfl [.int v1, .int r_4, .int ((1 : Int32))] [] hf (fun _ h => ctX6_pointOf l G o v1 r_4 ((1 : Int32)) h) ⟨rfl, rfl⟩ ⟨Nat.le_of_ble_eq_true rfl, Nat.le_of_ble_eq_true rfl⟩ ⟨Nat.le_of_ble_eq_true rfl, Nat.le_of_ble_eq_true rfl⟩ rfl rfl hl.1 (Nat.le_of_ble_eq_true rfl) dX6_correction_110 (fun r_7 H1 L1 P hf => ?_)
      refine r_istore C [(9, .int r_7), (8, .int r_6), (7, .int r_5), (6, .int r_4), (5, .int s_3), (0, .ref (rA G 19 0)), (1, .int v1), (2, .int v2)] hl (by decide) rfl dX6_correction_113 (fun ls hl => ?_)
      refine r_iload C hl 0 rfl dX6_correction_115 ?_
      refine r_aload_n C hl 5 rfl rfl dX6_correction_117 ?_
      refine r_iload_n C hl 6 rfl rfl dX6_correction_118 ?_
      refine r_iload C hl 2 rfl dX6_correction_119 ?_
      refine r_iconst C (v := 1) (by decide) dX6_correction_121 ?_
      refine r_qVi C P cf_X6_43 (rm := rmX6_pointOf) 19 0 (fun _ _ => ⟨_, rfl⟩) rfl rfl rfl [.int v1, .int r_5, .int ((1 : Int32))] [.int r_7] hf (fun _ h => ctX6_pointOf l G o v1 r_5 ((1 : Int32)) h) ⟨rfl, rfl⟩ ⟨Nat.le_of_ble_eq_true rfl, Nat.le_of_ble_eq_true rfl⟩ ⟨Nat.le_of_ble_eq_true rfl, Nat.le_of_ble_eq_true rfl⟩ rfl rfl hl.1 (Nat.le_of_ble_eq_true rfl) dX6_correction_122 (fun r_8 H1 L1 P hf => ?_)
      refine r_iload C hl 0 rfl dX6_correction_125 ?_
      refine r_isub C dX6_correction_127 ?_
      refine r_iload_n C hl 7 rfl rfl dX6_correction_128 ?_
      refine r_iload C hl 1 rfl dX6_correction_129 ?_
      refine r_isub C dX6_correction_131 ?_
      refine r_imul C dX6_correction_132 ?_
      refine r_aload_n C hl 5 rfl rfl dX6_correction_133 ?_
      refine r_iload_n C hl 6 rfl rfl dX6_correction_134 ?_
      refine r_iload C hl 2 rfl dX6_correction_135 ?_
      refine r_iconst C (v := 0) (by decide) dX6_correction_137 ?_
      refine r_qVi C P cf_X6_43 (rm := rmX6_pointOf) 19 0 (fun _ _ => ⟨_, rfl⟩) rfl rfl rfl [.int v1, .int r_5, .int ((0 : Int32))] [.int ((r_8 - r_7) * (v2 - r_6)), .int r_7] hf (fun _ h => ctX6_pointOf l G o v1 r_5 ((0 : Int32)) h) ⟨rfl, rfl⟩ ⟨Nat.le_of_ble_eq_true rfl, Nat.le_of_ble_eq_true rfl⟩ ⟨Nat.le_of_ble_eq_true rfl, Nat.le_of_ble_eq_true rfl⟩ rfl rfl hl.1 (Nat.le_of_ble_eq_true rfl) dX6_correction_138 (fun r_9 H1 L1 P hf => ?_)
      refine r_iload C hl 1 rfl dX6_correction_141 ?_
      refine r_isub C dX6_correction_143 ?_
      refine r_qSi C P cf_X6_40 (rm := rmX6_divided) [.int ((r_8 - r_7) * (v2 - r_6)), .int (r_9 - r_6)] [.int r_7] hf (fun _ h => ctX6_divided l G o ((r_8 - r_7) * (v2 - r_6)) (r_9 - r_6) h) ⟨rfl, rfl⟩ ⟨Nat.le_of_ble_eq_true rfl, Nat.le_of_ble_eq_true rfl⟩ ⟨Nat.le_of_ble_eq_true rfl, Nat.le_of_ble_eq_true rfl⟩ rfl rfl hl.1 (Nat.le_of_ble_eq_true rfl) dX6_correction_144 (fun r_10 H1 L1 P hf => ?_)
      refine r_iadd2 C dX6_correction_147 ?_
      exact q_iret C P (rm := rmX6_correction) ⟨rfl, rfl⟩ dX6_correction_148 hf
    refine r_if_ne C dX6_correction_50 hf (fun hf => ?_) (fun hf => ?_)
    · refine r_iload C hl 4 rfl dX6_correction_57 ?_
      refine r_iload_n C hl 3 rfl rfl dX6_correction_59 ?_
      refine r_icmp_ne C dX6_correction_60 hf (fun hf => ?_) (fun hf => ?_)
      · refine r_iload C hl 4 rfl dX6_correction_69 ?_
        refine r_iconst C (v := 1) (by decide) dX6_correction_71 ?_
        refine r_isub C dX6_correction_72 ?_
        exact j73 (v4_2 - ((1 : Int32))) _ _ _ P (lv_sub hl [0, 1, 2] rfl) hf
      · refine r_iload_n C hl 3 rfl rfl dX6_correction_63 ?_
        refine r_iconst C (v := 2) (by decide) dX6_correction_64 ?_
        refine r_isub C dX6_correction_65 ?_
        refine r_goto C dX6_correction_66 ?_
        exact j73 (r_1 - ((2 : Int32))) _ _ _ P (lv_sub hl [0, 1, 2] rfl) hf
    · refine r_iconst C (v := 0) (by decide) dX6_correction_53 ?_
      refine r_goto C dX6_correction_54 ?_
      exact j73 ((0 : Int32)) _ _ _ P (lv_sub hl [0, 1, 2] rfl) hf
  exact lX6_correction_14 C  j48 FU ((0 : Int32)) ((0 : Int32)) _ _ _ P (lv_sub hl [3, 4, 5, 2, 1, 0] rfl) hf
theorem ctX6_correction (l : Launch) (G : Gd) (o : OM) (v1 : Int32) (v2 : Int32)  {r : Int32} (hf : F_X6_correction o v1 v2 = some r) : Ct l yX6_correction cX6_correction 10 (some .int) rmX6_correction G [.ref (rA G 19 0), .int v1, .int v2] o (some (.int r)) o := ct_of (by decide +kernel) (Nat.le_of_ble_eq_true rfl) (fun p e s m below meth c ls C P hl => wX6_correction C  P hl hf)
theorem dX6_areEnough_0 : Dc cX6_areEnough 0 (.aload_n 0) 1 1 := ⟨by decide +kernel, rfl⟩
theorem dX6_areEnough_1 : Dc cX6_areEnough 1 (.iload_n 1) 1 2 := ⟨by decide +kernel, rfl⟩
theorem dX6_areEnough_2 : Dc cX6_areEnough 2 (.bipush 7) 2 4 := ⟨by decide +kernel, rfl⟩
theorem dX6_areEnough_4 : Dc cX6_areEnough 4 (.invokevirtual 37) 3 7 := ⟨by decide +kernel, rfl⟩
theorem dX6_areEnough_7 : Dc cX6_areEnough 7 (.iconst 1) 1 8 := ⟨by decide +kernel, rfl⟩
theorem dX6_areEnough_8 : Dj cX6_areEnough 8 (.if_icmp .le 7) 3 11 (7) 15 := ⟨by decide +kernel, rfl, by decide⟩
theorem dX6_areEnough_11 : Dc cX6_areEnough 11 (.iconst 1) 1 12 := ⟨by decide +kernel, rfl⟩
theorem dX6_areEnough_12 : Dj cX6_areEnough 12 (.goto 4) 3 15 (4) 16 := ⟨by decide +kernel, rfl, by decide⟩
theorem dX6_areEnough_15 : Dc cX6_areEnough 15 (.iconst 0) 1 16 := ⟨by decide +kernel, rfl⟩
theorem dX6_areEnough_16 : Dc cX6_areEnough 16 (.ireturn) 1 17 := ⟨by decide +kernel, rfl⟩
def F_X6_areEnough (o : OM) (v1 : Int32) : Option Int32 := bq (F_X6_get o v1 ((7 : Int32))) (fun r_1 => bd (fun (s_2 : Int32) => grd (isZ s_2) (some s_2)) (fun k16 => if r_1 ≤ ((1 : Int32)) then (k16 ((0 : Int32))) else (k16 ((1 : Int32)))))
abbrev rmX6_areEnough : Room := { frames := 2, cells := 0, slots := 0, locals := 43 }
set_option maxHeartbeats 4000000 in
set_option maxRecDepth 100000 in
theorem wX6_areEnough {G : Gd} {p : Program} {l : Launch} {e : Env} {s : State} {m : MethodId} {args : Array Value} {below : List Frame} {meth : Method} {c : Code} {o : OM} {H : Heap} {L0 : List Loc} {ls : Array Slot} {r : Int32} {v1 : Int32} (C : Cx G RX6 cX6_areEnough 2 (some .boolean) p s m args meth c)  (P : Hp G o s H L0) (hl : lv_has ls 2 [(0, .ref (rA G 19 0)), (1, .int v1)]) (hf : F_X6_areEnough o v1 = some r) : W p l e rmX6_areEnough s m args below meth c H L0 0 0 (Qm G (some (.int r)) o rmX6_areEnough below args s) (F0 m 0 ls []) := by
  unfold F_X6_areEnough at hf
  refine r_aload_n C hl 0 rfl rfl dX6_areEnough_0 ?_
  refine r_iload_n C hl 1 rfl rfl dX6_areEnough_1 ?_
  refine r_bipush C (v := 7) (by decide) dX6_areEnough_2 ?_
  refine r_qVi C P cf_X6_37 (rm := rmX6_get) 19 0 (fun _ _ => ⟨_, rfl⟩) rfl rfl rfl [.int v1, .int ((7 : Int32))] [] hf (fun _ h => ctX6_get l G o v1 ((7 : Int32)) h) ⟨rfl, rfl⟩ ⟨Nat.le_of_ble_eq_true rfl, Nat.le_of_ble_eq_true rfl⟩ ⟨Nat.le_of_ble_eq_true rfl, Nat.le_of_ble_eq_true rfl⟩ rfl rfl hl.1 (Nat.le_of_ble_eq_true rfl) dX6_areEnough_4 (fun r_1 H1 L1 P hf => ?_)
  refine r_iconst C (v := 1) (by decide) dX6_areEnough_7 ?_
  refine r_jn (fun k16 : Int32 → Option Int32 => ∀ (s_2 : Int32) H1 L1 ls, Hp G o s H1 L1 → lv_has ls 2 [] → k16 s_2 = some r → W p l e rmX6_areEnough s m args below meth c H1 L1 0 0 (Qm G (some (.int r)) o rmX6_areEnough below args s) (F0 m 16 ls [.int s_2])) hf ?_ (fun k16 j16 hf => ?_)
  · intro s_2 H1 L1 ls  P hl hf
    exact q_zret C P (rm := rmX6_areEnough) ⟨rfl, rfl⟩ dX6_areEnough_16 hf
  refine r_icmp_le C dX6_areEnough_8 hf (fun hf => ?_) (fun hf => ?_)
  · refine r_iconst C (v := 0) (by decide) dX6_areEnough_15 ?_
    exact j16 ((0 : Int32)) _ _ _ P (lv_sub hl [] rfl) hf
  · refine r_iconst C (v := 1) (by decide) dX6_areEnough_11 ?_
    refine r_goto C dX6_areEnough_12 ?_
    exact j16 ((1 : Int32)) _ _ _ P (lv_sub hl [] rfl) hf
theorem ctX6_areEnough (l : Launch) (G : Gd) (o : OM) (v1 : Int32)  {r : Int32} (hf : F_X6_areEnough o v1 = some r) : Ct l yX6_areEnough cX6_areEnough 2 (some .boolean) rmX6_areEnough G [.ref (rA G 19 0), .int v1] o (some (.int r)) o := ct_of (by decide +kernel) (Nat.le_of_ble_eq_true rfl) (fun p e s m below meth c ls C P hl => wX6_areEnough C  P hl hf)
theorem cf_X6_67 : CallF false RX6 67 yX6_areEnough cX6_areEnough 2 (some .boolean) 1 := ⟨wd_1055, (by rw [if_neg (by decide)]; exact ⟨wd_1057, wd_39⟩), wd_71, wd_1058, by decide, by decide +kernel⟩
theorem cf_X6_71 : CallF false RX6 71 yX6_correction cX6_correction 10 (some .int) 2 := ⟨wd_1059, (by rw [if_neg (by decide)]; exact ⟨wd_1061, wd_40⟩), wd_71, wd_1062, by decide, by decide +kernel⟩
theorem dX6_overlapOf_0 : Dc cX6_overlapOf 0 (.aload_n 0) 1 1 := ⟨by decide +kernel, rfl⟩
theorem dX6_overlapOf_1 : Dc cX6_overlapOf 1 (.iload_n 1) 1 2 := ⟨by decide +kernel, rfl⟩
theorem dX6_overlapOf_2 : Dc cX6_overlapOf 2 (.invokevirtual 67) 3 5 := ⟨by decide +kernel, rfl⟩
theorem dX6_overlapOf_5 : Dj cX6_overlapOf 5 (.ifCond .eq 11) 3 8 (11) 16 := ⟨by decide +kernel, rfl, by decide⟩
theorem dX6_overlapOf_8 : Dc cX6_overlapOf 8 (.aload_n 0) 1 9 := ⟨by decide +kernel, rfl⟩
theorem dX6_overlapOf_9 : Dc cX6_overlapOf 9 (.iload_n 2) 1 10 := ⟨by decide +kernel, rfl⟩
theorem dX6_overlapOf_10 : Dc cX6_overlapOf 10 (.invokevirtual 67) 3 13 := ⟨by decide +kernel, rfl⟩
theorem dX6_overlapOf_13 : Dj cX6_overlapOf 13 (.ifCond .ne 5) 3 16 (5) 18 := ⟨by decide +kernel, rfl, by decide⟩
theorem dX6_overlapOf_16 : Dc cX6_overlapOf 16 (.iconst (-1)) 1 17 := ⟨by decide +kernel, rfl⟩
theorem dX6_overlapOf_17 : Dc cX6_overlapOf 17 (.ireturn) 1 18 := ⟨by decide +kernel, rfl⟩
theorem dX6_overlapOf_18 : Dc cX6_overlapOf 18 (.aload_n 0) 1 19 := ⟨by decide +kernel, rfl⟩
theorem dX6_overlapOf_19 : Dc cX6_overlapOf 19 (.iload_n 1) 1 20 := ⟨by decide +kernel, rfl⟩
theorem dX6_overlapOf_20 : Dc cX6_overlapOf 20 (.aload_n 0) 1 21 := ⟨by decide +kernel, rfl⟩
theorem dX6_overlapOf_21 : Dc cX6_overlapOf 21 (.iload_n 1) 1 22 := ⟨by decide +kernel, rfl⟩
theorem dX6_overlapOf_22 : Dc cX6_overlapOf 22 (.iload_n 3) 1 23 := ⟨by decide +kernel, rfl⟩
theorem dX6_overlapOf_23 : Dc cX6_overlapOf 23 (.invokevirtual 50) 3 26 := ⟨by decide +kernel, rfl⟩
theorem dX6_overlapOf_26 : Dc cX6_overlapOf 26 (.invokevirtual 71) 3 29 := ⟨by decide +kernel, rfl⟩
theorem dX6_overlapOf_29 : Dc cX6_overlapOf 29 (.aload_n 0) 1 30 := ⟨by decide +kernel, rfl⟩
theorem dX6_overlapOf_30 : Dc cX6_overlapOf 30 (.iload_n 2) 1 31 := ⟨by decide +kernel, rfl⟩
theorem dX6_overlapOf_31 : Dc cX6_overlapOf 31 (.aload_n 0) 1 32 := ⟨by decide +kernel, rfl⟩
theorem dX6_overlapOf_32 : Dc cX6_overlapOf 32 (.iload_n 2) 1 33 := ⟨by decide +kernel, rfl⟩
theorem dX6_overlapOf_33 : Dc cX6_overlapOf 33 (.iload_n 3) 1 34 := ⟨by decide +kernel, rfl⟩
theorem dX6_overlapOf_34 : Dc cX6_overlapOf 34 (.invokevirtual 50) 3 37 := ⟨by decide +kernel, rfl⟩
theorem dX6_overlapOf_37 : Dc cX6_overlapOf 37 (.invokevirtual 71) 3 40 := ⟨by decide +kernel, rfl⟩
theorem dX6_overlapOf_40 : Dc cX6_overlapOf 40 (.isub) 1 41 := ⟨by decide +kernel, rfl⟩
theorem dX6_overlapOf_41 : Dc cX6_overlapOf 41 (.istore 4) 2 43 := ⟨by decide +kernel, rfl⟩
theorem dX6_overlapOf_43 : Dc cX6_overlapOf 43 (.iload 4) 2 45 := ⟨by decide +kernel, rfl⟩
theorem dX6_overlapOf_45 : Dj cX6_overlapOf 45 (.ifCond .ge 9) 3 48 (9) 54 := ⟨by decide +kernel, rfl, by decide⟩
theorem dX6_overlapOf_48 : Dc cX6_overlapOf 48 (.iload 4) 2 50 := ⟨by decide +kernel, rfl⟩
theorem dX6_overlapOf_50 : Dc cX6_overlapOf 50 (.ineg) 1 51 := ⟨by decide +kernel, rfl⟩
theorem dX6_overlapOf_51 : Dj cX6_overlapOf 51 (.goto 5) 3 54 (5) 56 := ⟨by decide +kernel, rfl, by decide⟩
theorem dX6_overlapOf_54 : Dc cX6_overlapOf 54 (.iload 4) 2 56 := ⟨by decide +kernel, rfl⟩
theorem dX6_overlapOf_56 : Dc cX6_overlapOf 56 (.ireturn) 1 57 := ⟨by decide +kernel, rfl⟩
def F_X6_overlapOf (o : OM) (v1 : Int32) (v2 : Int32) (v3 : Int32) : Option Int32 := bq (F_X6_areEnough o v1) (fun r_1 => bd (fun (_ : Unit) => some ((-1 : Int32))) (fun k16 => if r_1 = 0 then (k16 ()) else (bq (F_X6_areEnough o v2) (fun r_2 => if r_2 = 0 then (k16 ()) else (bq (F_X6_readingOf o v1 v3) (fun r_3 => bq (F_X6_correction o v1 r_3) (fun r_4 => bq (F_X6_readingOf o v2 v3) (fun r_5 => bq (F_X6_correction o v2 r_5) (fun r_6 => bd (r_4 - r_6) (fun v4_7 : Int32 => bd (fun (s_8 : Int32) => some s_8) (fun k56 => if 0 ≤ v4_7 then (k56 v4_7) else (k56 (-v4_7)))))))))))))
abbrev rmX6_overlapOf : Room := { frames := 4, cells := 0, slots := 0, locals := 99 }
set_option maxHeartbeats 4000000 in
set_option maxRecDepth 100000 in
theorem wX6_overlapOf {G : Gd} {p : Program} {l : Launch} {e : Env} {s : State} {m : MethodId} {args : Array Value} {below : List Frame} {meth : Method} {c : Code} {o : OM} {H : Heap} {L0 : List Loc} {ls : Array Slot} {r : Int32} {v1 : Int32} {v2 : Int32} {v3 : Int32} (C : Cx G RX6 cX6_overlapOf 5 (some .int) p s m args meth c)  (P : Hp G o s H L0) (hl : lv_has ls 5 [(0, .ref (rA G 19 0)), (1, .int v1), (2, .int v2), (3, .int v3)]) (hf : F_X6_overlapOf o v1 v2 v3 = some r) : W p l e rmX6_overlapOf s m args below meth c H L0 0 0 (Qm G (some (.int r)) o rmX6_overlapOf below args s) (F0 m 0 ls []) := by
  unfold F_X6_overlapOf at hf
  refine r_aload_n C hl 0 rfl rfl dX6_overlapOf_0 ?_
  refine r_iload_n C hl 1 rfl rfl dX6_overlapOf_1 ?_
  refine r_qVi C P cf_X6_67 (rm := rmX6_areEnough) 19 0 (fun _ _ => ⟨_, rfl⟩) rfl rfl rfl [.int v1] [] hf (fun _ h => ctX6_areEnough l G o v1 h) ⟨rfl, rfl⟩ ⟨Nat.le_of_ble_eq_true rfl, Nat.le_of_ble_eq_true rfl⟩ ⟨Nat.le_of_ble_eq_true rfl, Nat.le_of_ble_eq_true rfl⟩ rfl rfl hl.1 (Nat.le_of_ble_eq_true rfl) dX6_overlapOf_2 (fun r_1 H1 L1 P hf => ?_)
  refine r_jn (fun k16 : Unit → Option Int32 => ∀ H1 L1 ls, Hp G o s H1 L1 → lv_has ls 5 [] → k16 () = some r → W p l e rmX6_overlapOf s m args below meth c H1 L1 0 0 (Qm G (some (.int r)) o rmX6_overlapOf below args s) (F0 m 16 ls [])) hf ?_ (fun k16 j16 hf => ?_)
  · intro  H1 L1 ls  P hl hf
    refine r_iconst C (v := -1) (by decide) dX6_overlapOf_16 ?_
    exact q_iret C P (rm := rmX6_overlapOf) ⟨rfl, rfl⟩ dX6_overlapOf_17 hf
  refine r_if_eq C dX6_overlapOf_5 hf (fun hf => ?_) (fun hf => ?_)
  · exact j16  _ _ _ P (lv_sub hl [] rfl) hf
  · refine r_aload_n C hl 0 rfl rfl dX6_overlapOf_8 ?_
    refine r_iload_n C hl 2 rfl rfl dX6_overlapOf_9 ?_
    refine r_qVi C P cf_X6_67 (rm := rmX6_areEnough) 19 0 (fun _ _ => ⟨_, rfl⟩) rfl rfl rfl [.int v2] [] hf (fun _ h => ctX6_areEnough l G o v2 h) ⟨rfl, rfl⟩ ⟨Nat.le_of_ble_eq_true rfl, Nat.le_of_ble_eq_true rfl⟩ ⟨Nat.le_of_ble_eq_true rfl, Nat.le_of_ble_eq_true rfl⟩ rfl rfl hl.1 (Nat.le_of_ble_eq_true rfl) dX6_overlapOf_10 (fun r_2 H1 L1 P hf => ?_)
    refine r_if_ne C dX6_overlapOf_13 hf (fun hf => ?_) (fun hf => ?_)
    · refine r_aload_n C hl 0 rfl rfl dX6_overlapOf_18 ?_
      refine r_iload_n C hl 1 rfl rfl dX6_overlapOf_19 ?_
      refine r_aload_n C hl 0 rfl rfl dX6_overlapOf_20 ?_
      refine r_iload_n C hl 1 rfl rfl dX6_overlapOf_21 ?_
      refine r_iload_n C hl 3 rfl rfl dX6_overlapOf_22 ?_
      refine r_qVi C P cf_X6_50 (rm := rmX6_readingOf) 19 0 (fun _ _ => ⟨_, rfl⟩) rfl rfl rfl [.int v1, .int v3] [.int v1, .ref (rA G 19 0)] hf (fun _ h => ctX6_readingOf l G o v1 v3 h) ⟨rfl, rfl⟩ ⟨Nat.le_of_ble_eq_true rfl, Nat.le_of_ble_eq_true rfl⟩ ⟨Nat.le_of_ble_eq_true rfl, Nat.le_of_ble_eq_true rfl⟩ rfl rfl hl.1 (Nat.le_of_ble_eq_true rfl) dX6_overlapOf_23 (fun r_3 H1 L1 P hf => ?_)
      refine r_qVi C P cf_X6_71 (rm := rmX6_correction) 19 0 (fun _ _ => ⟨_, rfl⟩) rfl rfl rfl [.int v1, .int r_3] [] hf (fun _ h => ctX6_correction l G o v1 r_3 h) ⟨rfl, rfl⟩ ⟨Nat.le_of_ble_eq_true rfl, Nat.le_of_ble_eq_true rfl⟩ ⟨Nat.le_of_ble_eq_true rfl, Nat.le_of_ble_eq_true rfl⟩ rfl rfl hl.1 (Nat.le_of_ble_eq_true rfl) dX6_overlapOf_26 (fun r_4 H1 L1 P hf => ?_)
      refine r_aload_n C hl 0 rfl rfl dX6_overlapOf_29 ?_
      refine r_iload_n C hl 2 rfl rfl dX6_overlapOf_30 ?_
      refine r_aload_n C hl 0 rfl rfl dX6_overlapOf_31 ?_
      refine r_iload_n C hl 2 rfl rfl dX6_overlapOf_32 ?_
      refine r_iload_n C hl 3 rfl rfl dX6_overlapOf_33 ?_
      refine r_qVi C P cf_X6_50 (rm := rmX6_readingOf) 19 0 (fun _ _ => ⟨_, rfl⟩) rfl rfl rfl [.int v2, .int v3] [.int v2, .ref (rA G 19 0), .int r_4] hf (fun _ h => ctX6_readingOf l G o v2 v3 h) ⟨rfl, rfl⟩ ⟨Nat.le_of_ble_eq_true rfl, Nat.le_of_ble_eq_true rfl⟩ ⟨Nat.le_of_ble_eq_true rfl, Nat.le_of_ble_eq_true rfl⟩ rfl rfl hl.1 (Nat.le_of_ble_eq_true rfl) dX6_overlapOf_34 (fun r_5 H1 L1 P hf => ?_)
      refine r_qVi C P cf_X6_71 (rm := rmX6_correction) 19 0 (fun _ _ => ⟨_, rfl⟩) rfl rfl rfl [.int v2, .int r_5] [.int r_4] hf (fun _ h => ctX6_correction l G o v2 r_5 h) ⟨rfl, rfl⟩ ⟨Nat.le_of_ble_eq_true rfl, Nat.le_of_ble_eq_true rfl⟩ ⟨Nat.le_of_ble_eq_true rfl, Nat.le_of_ble_eq_true rfl⟩ rfl rfl hl.1 (Nat.le_of_ble_eq_true rfl) dX6_overlapOf_37 (fun r_6 H1 L1 P hf => ?_)
      refine r_isub C dX6_overlapOf_40 ?_
      refine r_bdi hf (fun v4_7 hf => ?_)
      refine r_istore C [(4, .int v4_7), (0, .ref (rA G 19 0)), (1, .int v1), (2, .int v2), (3, .int v3)] hl (by decide) rfl dX6_overlapOf_41 (fun ls hl => ?_)
      refine r_iload C hl 0 rfl dX6_overlapOf_43 ?_
      refine r_jn (fun k56 : Int32 → Option Int32 => ∀ (s_8 : Int32) H1 L1 ls, Hp G o s H1 L1 → lv_has ls 5 [] → k56 s_8 = some r → W p l e rmX6_overlapOf s m args below meth c H1 L1 0 0 (Qm G (some (.int r)) o rmX6_overlapOf below args s) (F0 m 56 ls [.int s_8])) hf ?_ (fun k56 j56 hf => ?_)
      · intro s_8 H1 L1 ls  P hl hf
        exact q_iret C P (rm := rmX6_overlapOf) ⟨rfl, rfl⟩ dX6_overlapOf_56 hf
      refine r_if_ge C dX6_overlapOf_45 hf (fun hf => ?_) (fun hf => ?_)
      · refine r_iload C hl 0 rfl dX6_overlapOf_54 ?_
        exact j56 v4_7 _ _ _ P (lv_sub hl [] rfl) hf
      · refine r_iload C hl 0 rfl dX6_overlapOf_48 ?_
        refine r_ineg C dX6_overlapOf_50 ?_
        refine r_goto C dX6_overlapOf_51 ?_
        exact j56 (-v4_7) _ _ _ P (lv_sub hl [] rfl) hf
    · exact j16  _ _ _ P (lv_sub hl [] rfl) hf
theorem ctX6_overlapOf (l : Launch) (G : Gd) (o : OM) (v1 : Int32) (v2 : Int32) (v3 : Int32)  {r : Int32} (hf : F_X6_overlapOf o v1 v2 v3 = some r) : Ct l yX6_overlapOf cX6_overlapOf 5 (some .int) rmX6_overlapOf G [.ref (rA G 19 0), .int v1, .int v2, .int v3] o (some (.int r)) o := ct_of (by decide +kernel) (Nat.le_of_ble_eq_true rfl) (fun p e s m below meth c ls C P hl => wX6_overlapOf C  P hl hf)
theorem dX6_isValid_0 : Dc cX6_isValid 0 (.aload_n 0) 1 1 := ⟨by decide +kernel, rfl⟩
theorem dX6_isValid_1 : Dc cX6_isValid 1 (.iload_n 1) 1 2 := ⟨by decide +kernel, rfl⟩
theorem dX6_isValid_2 : Dc cX6_isValid 2 (.iconst 5) 1 3 := ⟨by decide +kernel, rfl⟩
theorem dX6_isValid_3 : Dc cX6_isValid 3 (.invokevirtual 37) 3 6 := ⟨by decide +kernel, rfl⟩
theorem dX6_isValid_6 : Dc cX6_isValid 6 (.iconst (-1)) 1 7 := ⟨by decide +kernel, rfl⟩
theorem dX6_isValid_7 : Dj cX6_isValid 7 (.if_icmp .eq 32) 3 10 (32) 39 := ⟨by decide +kernel, rfl, by decide⟩
theorem dX6_isValid_10 : Dc cX6_isValid 10 (.aload_n 0) 1 11 := ⟨by decide +kernel, rfl⟩
theorem dX6_isValid_11 : Dc cX6_isValid 11 (.iload_n 1) 1 12 := ⟨by decide +kernel, rfl⟩
theorem dX6_isValid_12 : Dc cX6_isValid 12 (.iconst 4) 1 13 := ⟨by decide +kernel, rfl⟩
theorem dX6_isValid_13 : Dc cX6_isValid 13 (.invokevirtual 37) 3 16 := ⟨by decide +kernel, rfl⟩
theorem dX6_isValid_16 : Dc cX6_isValid 16 (.aload_n 0) 1 17 := ⟨by decide +kernel, rfl⟩
theorem dX6_isValid_17 : Dc cX6_isValid 17 (.iload_n 1) 1 18 := ⟨by decide +kernel, rfl⟩
theorem dX6_isValid_18 : Dc cX6_isValid 18 (.bipush 6) 2 20 := ⟨by decide +kernel, rfl⟩
theorem dX6_isValid_20 : Dc cX6_isValid 20 (.invokevirtual 37) 3 23 := ⟨by decide +kernel, rfl⟩
theorem dX6_isValid_23 : Dc cX6_isValid 23 (.isub) 1 24 := ⟨by decide +kernel, rfl⟩
theorem dX6_isValid_24 : Dc cX6_isValid 24 (.aload_n 0) 1 25 := ⟨by decide +kernel, rfl⟩
theorem dX6_isValid_25 : Dc cX6_isValid 25 (.getfield 7) 3 28 := ⟨by decide +kernel, rfl⟩
theorem dX6_isValid_28 : Dc cX6_isValid 28 (.sipush 241) 3 31 := ⟨by decide +kernel, rfl⟩
theorem dX6_isValid_31 : Dc cX6_isValid 31 (.iaload) 1 32 := ⟨by decide +kernel, rfl⟩
theorem dX6_isValid_32 : Dj cX6_isValid 32 (.if_icmp .gt 7) 3 35 (7) 39 := ⟨by decide +kernel, rfl, by decide⟩
theorem dX6_isValid_35 : Dc cX6_isValid 35 (.iconst 1) 1 36 := ⟨by decide +kernel, rfl⟩
theorem dX6_isValid_36 : Dj cX6_isValid 36 (.goto 4) 3 39 (4) 40 := ⟨by decide +kernel, rfl, by decide⟩
theorem dX6_isValid_39 : Dc cX6_isValid 39 (.iconst 0) 1 40 := ⟨by decide +kernel, rfl⟩
theorem dX6_isValid_40 : Dc cX6_isValid 40 (.ireturn) 1 41 := ⟨by decide +kernel, rfl⟩
def F_X6_isValid (o : OM) (v1 : Int32) : Option Int32 := bq (F_X6_get o v1 ((5 : Int32))) (fun r_1 => bd (fun (s_2 : Int32) => grd (isZ s_2) (some s_2)) (fun k40 => bd (fun (_ : Unit) => k40 ((0 : Int32))) (fun k39 => if r_1 = ((-1 : Int32)) then (k39 ()) else (bq (F_X6_get o v1 ((4 : Int32))) (fun r_3 => bq (F_X6_get o v1 ((6 : Int32))) (fun r_4 => grd (inB ((241 : Int32)) 244) (if (rd o 20 0 ((241 : Int32)).toNatClampNeg) < (r_3 - r_4) then (k39 ()) else (k40 ((1 : Int32))))))))))
abbrev rmX6_isValid : Room := { frames := 2, cells := 0, slots := 0, locals := 43 }
set_option maxHeartbeats 4000000 in
set_option maxRecDepth 100000 in
theorem wX6_isValid {G : Gd} {p : Program} {l : Launch} {e : Env} {s : State} {m : MethodId} {args : Array Value} {below : List Frame} {meth : Method} {c : Code} {o : OM} {H : Heap} {L0 : List Loc} {ls : Array Slot} {r : Int32} {v1 : Int32} (C : Cx G RX6 cX6_isValid 2 (some .boolean) p s m args meth c)  (P : Hp G o s H L0) (hl : lv_has ls 2 [(0, .ref (rA G 19 0)), (1, .int v1)]) (hf : F_X6_isValid o v1 = some r) : W p l e rmX6_isValid s m args below meth c H L0 0 0 (Qm G (some (.int r)) o rmX6_isValid below args s) (F0 m 0 ls []) := by
  unfold F_X6_isValid at hf
  refine r_aload_n C hl 0 rfl rfl dX6_isValid_0 ?_
  refine r_iload_n C hl 1 rfl rfl dX6_isValid_1 ?_
  refine r_iconst C (v := 5) (by decide) dX6_isValid_2 ?_
  refine r_qVi C P cf_X6_37 (rm := rmX6_get) 19 0 (fun _ _ => ⟨_, rfl⟩) rfl rfl rfl [.int v1, .int ((5 : Int32))] [] hf (fun _ h => ctX6_get l G o v1 ((5 : Int32)) h) ⟨rfl, rfl⟩ ⟨Nat.le_of_ble_eq_true rfl, Nat.le_of_ble_eq_true rfl⟩ ⟨Nat.le_of_ble_eq_true rfl, Nat.le_of_ble_eq_true rfl⟩ rfl rfl hl.1 (Nat.le_of_ble_eq_true rfl) dX6_isValid_3 (fun r_1 H1 L1 P hf => ?_)
  refine r_iconst C (v := -1) (by decide) dX6_isValid_6 ?_
  refine r_jn (fun k40 : Int32 → Option Int32 => ∀ (s_2 : Int32) H1 L1 ls, Hp G o s H1 L1 → lv_has ls 2 [] → k40 s_2 = some r → W p l e rmX6_isValid s m args below meth c H1 L1 0 0 (Qm G (some (.int r)) o rmX6_isValid below args s) (F0 m 40 ls [.int s_2])) hf ?_ (fun k40 j40 hf => ?_)
  · intro s_2 H1 L1 ls  P hl hf
    exact q_zret C P (rm := rmX6_isValid) ⟨rfl, rfl⟩ dX6_isValid_40 hf
  refine r_jn (fun k39 : Unit → Option Int32 => ∀ H1 L1 ls, Hp G o s H1 L1 → lv_has ls 2 [] → k39 () = some r → W p l e rmX6_isValid s m args below meth c H1 L1 0 0 (Qm G (some (.int r)) o rmX6_isValid below args s) (F0 m 39 ls [])) hf ?_ (fun k39 j39 hf => ?_)
  · intro  H1 L1 ls  P hl hf
    refine r_iconst C (v := 0) (by decide) dX6_isValid_39 ?_
    exact j40 ((0 : Int32)) _ _ _ P (lv_sub hl [] rfl) hf
  refine r_icmp_eq C dX6_isValid_7 hf (fun hf => ?_) (fun hf => ?_)
  · exact j39  _ _ _ P (lv_sub hl [] rfl) hf
  · refine r_aload_n C hl 0 rfl rfl dX6_isValid_10 ?_
    refine r_iload_n C hl 1 rfl rfl dX6_isValid_11 ?_
    refine r_iconst C (v := 4) (by decide) dX6_isValid_12 ?_
    refine r_qVi C P cf_X6_37 (rm := rmX6_get) 19 0 (fun _ _ => ⟨_, rfl⟩) rfl rfl rfl [.int v1, .int ((4 : Int32))] [] hf (fun _ h => ctX6_get l G o v1 ((4 : Int32)) h) ⟨rfl, rfl⟩ ⟨Nat.le_of_ble_eq_true rfl, Nat.le_of_ble_eq_true rfl⟩ ⟨Nat.le_of_ble_eq_true rfl, Nat.le_of_ble_eq_true rfl⟩ rfl rfl hl.1 (Nat.le_of_ble_eq_true rfl) dX6_isValid_13 (fun r_3 H1 L1 P hf => ?_)
    refine r_aload_n C hl 0 rfl rfl dX6_isValid_16 ?_
    refine r_iload_n C hl 1 rfl rfl dX6_isValid_17 ?_
    refine r_bipush C (v := 6) (by decide) dX6_isValid_18 ?_
    refine r_qVi C P cf_X6_37 (rm := rmX6_get) 19 0 (fun _ _ => ⟨_, rfl⟩) rfl rfl rfl [.int v1, .int ((6 : Int32))] [.int r_3] hf (fun _ h => ctX6_get l G o v1 ((6 : Int32)) h) ⟨rfl, rfl⟩ ⟨Nat.le_of_ble_eq_true rfl, Nat.le_of_ble_eq_true rfl⟩ ⟨Nat.le_of_ble_eq_true rfl, Nat.le_of_ble_eq_true rfl⟩ rfl rfl hl.1 (Nat.le_of_ble_eq_true rfl) dX6_isValid_20 (fun r_4 H1 L1 P hf => ?_)
    refine r_isub C dX6_isValid_23 ?_
    refine r_aload_n C hl 0 rfl rfl dX6_isValid_24 ?_
    refine gf_19_1 C P rfl wd_880 dX6_isValid_25 ?_
    refine r_sipush C (v := 241) (by decide) dX6_isValid_28 ?_
    refine r_iald C P (k := 20) (i := 0) (n := 244) (fun _ _ => rfl) rfl dX6_isValid_31 hf (fun hf => ?_)
    refine r_icmp_gt C dX6_isValid_32 hf (fun hf => ?_) (fun hf => ?_)
    · exact j39  _ _ _ P (lv_sub hl [] rfl) hf
    · refine r_iconst C (v := 1) (by decide) dX6_isValid_35 ?_
      refine r_goto C dX6_isValid_36 ?_
      exact j40 ((1 : Int32)) _ _ _ P (lv_sub hl [] rfl) hf
theorem ctX6_isValid (l : Launch) (G : Gd) (o : OM) (v1 : Int32)  {r : Int32} (hf : F_X6_isValid o v1 = some r) : Ct l yX6_isValid cX6_isValid 2 (some .boolean) rmX6_isValid G [.ref (rA G 19 0), .int v1] o (some (.int r)) o := ct_of (by decide +kernel) (Nat.le_of_ble_eq_true rfl) (fun p e s m below meth c ls C P hl => wX6_isValid C  P hl hf)
theorem dX6_isOld_0 : Dc cX6_isOld 0 (.aload_n 0) 1 1 := ⟨by decide +kernel, rfl⟩
theorem dX6_isOld_1 : Dc cX6_isOld 1 (.getfield 7) 3 4 := ⟨by decide +kernel, rfl⟩
theorem dX6_isOld_4 : Dc cX6_isOld 4 (.sipush 233) 3 7 := ⟨by decide +kernel, rfl⟩
theorem dX6_isOld_7 : Dc cX6_isOld 7 (.iaload) 1 8 := ⟨by decide +kernel, rfl⟩
theorem dX6_isOld_8 : Dc cX6_isOld 8 (.aload_n 0) 1 9 := ⟨by decide +kernel, rfl⟩
theorem dX6_isOld_9 : Dc cX6_isOld 9 (.iload_n 1) 1 10 := ⟨by decide +kernel, rfl⟩
theorem dX6_isOld_10 : Dc cX6_isOld 10 (.aload_n 0) 1 11 := ⟨by decide +kernel, rfl⟩
theorem dX6_isOld_11 : Dc cX6_isOld 11 (.iload_n 1) 1 12 := ⟨by decide +kernel, rfl⟩
theorem dX6_isOld_12 : Dc cX6_isOld 12 (.iload_n 2) 1 13 := ⟨by decide +kernel, rfl⟩
theorem dX6_isOld_13 : Dc cX6_isOld 13 (.invokevirtual 47) 3 16 := ⟨by decide +kernel, rfl⟩
theorem dX6_isOld_16 : Dc cX6_isOld 16 (.iconst 2) 1 17 := ⟨by decide +kernel, rfl⟩
theorem dX6_isOld_17 : Dc cX6_isOld 17 (.invokevirtual 43) 3 20 := ⟨by decide +kernel, rfl⟩
theorem dX6_isOld_20 : Dc cX6_isOld 20 (.isub) 1 21 := ⟨by decide +kernel, rfl⟩
theorem dX6_isOld_21 : Dc cX6_isOld 21 (.aload_n 0) 1 22 := ⟨by decide +kernel, rfl⟩
theorem dX6_isOld_22 : Dc cX6_isOld 22 (.getfield 7) 3 25 := ⟨by decide +kernel, rfl⟩
theorem dX6_isOld_25 : Dc cX6_isOld 25 (.sipush 239) 3 28 := ⟨by decide +kernel, rfl⟩
theorem dX6_isOld_28 : Dc cX6_isOld 28 (.iaload) 1 29 := ⟨by decide +kernel, rfl⟩
theorem dX6_isOld_29 : Dj cX6_isOld 29 (.if_icmp .le 7) 3 32 (7) 36 := ⟨by decide +kernel, rfl, by decide⟩
theorem dX6_isOld_32 : Dc cX6_isOld 32 (.iconst 1) 1 33 := ⟨by decide +kernel, rfl⟩
theorem dX6_isOld_33 : Dj cX6_isOld 33 (.goto 4) 3 36 (4) 37 := ⟨by decide +kernel, rfl, by decide⟩
theorem dX6_isOld_36 : Dc cX6_isOld 36 (.iconst 0) 1 37 := ⟨by decide +kernel, rfl⟩
theorem dX6_isOld_37 : Dc cX6_isOld 37 (.ireturn) 1 38 := ⟨by decide +kernel, rfl⟩
def F_X6_isOld (o : OM) (v1 : Int32) (v2 : Int32) : Option Int32 := grd (inB ((233 : Int32)) 244) (bq (F_X6_pointAt o v1 v2) (fun r_1 => bq (F_X6_pointOf o v1 r_1 ((2 : Int32))) (fun r_2 => grd (inB ((239 : Int32)) 244) (bd (fun (s_3 : Int32) => grd (isZ s_3) (some s_3)) (fun k37 => if ((rd o 20 0 ((233 : Int32)).toNatClampNeg) - r_2) ≤ (rd o 20 0 ((239 : Int32)).toNatClampNeg) then (k37 ((0 : Int32))) else (k37 ((1 : Int32))))))))
abbrev rmX6_isOld : Room := { frames := 3, cells := 0, slots := 0, locals := 68 }
set_option maxHeartbeats 4000000 in
set_option maxRecDepth 100000 in
theorem wX6_isOld {G : Gd} {p : Program} {l : Launch} {e : Env} {s : State} {m : MethodId} {args : Array Value} {below : List Frame} {meth : Method} {c : Code} {o : OM} {H : Heap} {L0 : List Loc} {ls : Array Slot} {r : Int32} {v1 : Int32} {v2 : Int32} (C : Cx G RX6 cX6_isOld 3 (some .boolean) p s m args meth c)  (P : Hp G o s H L0) (hl : lv_has ls 3 [(0, .ref (rA G 19 0)), (1, .int v1), (2, .int v2)]) (hf : F_X6_isOld o v1 v2 = some r) : W p l e rmX6_isOld s m args below meth c H L0 0 0 (Qm G (some (.int r)) o rmX6_isOld below args s) (F0 m 0 ls []) := by
  unfold F_X6_isOld at hf
  refine r_aload_n C hl 0 rfl rfl dX6_isOld_0 ?_
  refine gf_19_1 C P rfl wd_880 dX6_isOld_1 ?_
  refine r_sipush C (v := 233) (by decide) dX6_isOld_4 ?_
  refine r_iald C P (k := 20) (i := 0) (n := 244) (fun _ _ => rfl) rfl dX6_isOld_7 hf (fun hf => ?_)
  refine r_aload_n C hl 0 rfl rfl dX6_isOld_8 ?_
  refine r_iload_n C hl 1 rfl rfl dX6_isOld_9 ?_
  refine r_aload_n C hl 0 rfl rfl dX6_isOld_10 ?_
  refine r_iload_n C hl 1 rfl rfl dX6_isOld_11 ?_
  refine r_iload_n C hl 2 rfl rfl dX6_isOld_12 ?_
  refine r_qVi C P cf_X6_47 (rm := rmX6_pointAt) 19 0 (fun _ _ => ⟨_, rfl⟩) rfl rfl rfl [.int v1, .int v2] [.int v1, .ref (rA G 19 0), .int (rd o 20 0 ((233 : Int32)).toNatClampNeg)] hf (fun _ h => ctX6_pointAt l G o v1 v2 h) ⟨rfl, rfl⟩ ⟨Nat.le_of_ble_eq_true rfl, Nat.le_of_ble_eq_true rfl⟩ ⟨Nat.le_of_ble_eq_true rfl, Nat.le_of_ble_eq_true rfl⟩ rfl rfl hl.1 (Nat.le_of_ble_eq_true rfl) dX6_isOld_13 (fun r_1 H1 L1 P hf => ?_)
  refine r_iconst C (v := 2) (by decide) dX6_isOld_16 ?_
  refine r_qVi C P cf_X6_43 (rm := rmX6_pointOf) 19 0 (fun _ _ => ⟨_, rfl⟩) rfl rfl rfl [.int v1, .int r_1, .int ((2 : Int32))] [.int (rd o 20 0 ((233 : Int32)).toNatClampNeg)] hf (fun _ h => ctX6_pointOf l G o v1 r_1 ((2 : Int32)) h) ⟨rfl, rfl⟩ ⟨Nat.le_of_ble_eq_true rfl, Nat.le_of_ble_eq_true rfl⟩ ⟨Nat.le_of_ble_eq_true rfl, Nat.le_of_ble_eq_true rfl⟩ rfl rfl hl.1 (Nat.le_of_ble_eq_true rfl) dX6_isOld_17 (fun r_2 H1 L1 P hf => ?_)
  refine r_isub C dX6_isOld_20 ?_
  refine r_aload_n C hl 0 rfl rfl dX6_isOld_21 ?_
  refine gf_19_1 C P rfl wd_880 dX6_isOld_22 ?_
  refine r_sipush C (v := 239) (by decide) dX6_isOld_25 ?_
  refine r_iald C P (k := 20) (i := 0) (n := 244) (fun _ _ => rfl) rfl dX6_isOld_28 hf (fun hf => ?_)
  refine r_jn (fun k37 : Int32 → Option Int32 => ∀ (s_3 : Int32) H1 L1 ls, Hp G o s H1 L1 → lv_has ls 3 [] → k37 s_3 = some r → W p l e rmX6_isOld s m args below meth c H1 L1 0 0 (Qm G (some (.int r)) o rmX6_isOld below args s) (F0 m 37 ls [.int s_3])) hf ?_ (fun k37 j37 hf => ?_)
  · intro s_3 H1 L1 ls  P hl hf
    exact q_zret C P (rm := rmX6_isOld) ⟨rfl, rfl⟩ dX6_isOld_37 hf
  refine r_icmp_le C dX6_isOld_29 hf (fun hf => ?_) (fun hf => ?_)
  · refine r_iconst C (v := 0) (by decide) dX6_isOld_36 ?_
    exact j37 ((0 : Int32)) _ _ _ P (lv_sub hl [] rfl) hf
  · refine r_iconst C (v := 1) (by decide) dX6_isOld_32 ?_
    refine r_goto C dX6_isOld_33 ?_
    exact j37 ((1 : Int32)) _ _ _ P (lv_sub hl [] rfl) hf
theorem ctX6_isOld (l : Launch) (G : Gd) (o : OM) (v1 : Int32) (v2 : Int32)  {r : Int32} (hf : F_X6_isOld o v1 v2 = some r) : Ct l yX6_isOld cX6_isOld 3 (some .boolean) rmX6_isOld G [.ref (rA G 19 0), .int v1, .int v2] o (some (.int r)) o := ct_of (by decide +kernel) (Nat.le_of_ble_eq_true rfl) (fun p e s m below meth c ls C P hl => wX6_isOld C  P hl hf)
theorem cf_X6_74 : CallF false RX6 74 yX6_isValid cX6_isValid 2 (some .boolean) 1 := ⟨wd_1043, (by rw [if_neg (by decide)]; exact ⟨wd_1045, wd_36⟩), wd_71, wd_1046, by decide, by decide +kernel⟩
theorem cf_X6_77 : CallF false RX6 77 yX6_overlapOf cX6_overlapOf 5 (some .int) 3 := ⟨wd_1051, (by rw [if_neg (by decide)]; exact ⟨wd_1053, wd_38⟩), wd_71, wd_1054, by decide, by decide +kernel⟩
theorem dX6_differs_0 : Dc cX6_differs 0 (.iconst 0) 1 1 := ⟨by decide +kernel, rfl⟩
theorem dX6_differs_1 : Dc cX6_differs 1 (.istore_n 2) 1 2 := ⟨by decide +kernel, rfl⟩
theorem dX6_differs_2 : Dc cX6_differs 2 (.iconst 0) 1 3 := ⟨by decide +kernel, rfl⟩
theorem dX6_differs_3 : Dc cX6_differs 3 (.istore_n 3) 1 4 := ⟨by decide +kernel, rfl⟩
theorem dX6_differs_4 : Dc cX6_differs 4 (.iload_n 3) 1 5 := ⟨by decide +kernel, rfl⟩
theorem dX6_differs_5 : Dc cX6_differs 5 (.aload_n 0) 1 6 := ⟨by decide +kernel, rfl⟩
theorem dX6_differs_6 : Dc cX6_differs 6 (.getfield 7) 3 9 := ⟨by decide +kernel, rfl⟩
theorem dX6_differs_9 : Dc cX6_differs 9 (.sipush 228) 3 12 := ⟨by decide +kernel, rfl⟩
theorem dX6_differs_12 : Dc cX6_differs 12 (.iaload) 1 13 := ⟨by decide +kernel, rfl⟩
theorem dX6_differs_13 : Dj cX6_differs 13 (.if_icmp .ge 79) 3 16 (79) 92 := ⟨by decide +kernel, rfl, by decide⟩
theorem dX6_differs_16 : Dc cX6_differs 16 (.iload_n 3) 1 17 := ⟨by decide +kernel, rfl⟩
theorem dX6_differs_17 : Dc cX6_differs 17 (.iload_n 1) 1 18 := ⟨by decide +kernel, rfl⟩
theorem dX6_differs_18 : Dj cX6_differs 18 (.if_icmp .eq 30) 3 21 (30) 48 := ⟨by decide +kernel, rfl, by decide⟩
theorem dX6_differs_21 : Dc cX6_differs 21 (.aload_n 0) 1 22 := ⟨by decide +kernel, rfl⟩
theorem dX6_differs_22 : Dc cX6_differs 22 (.iload_n 3) 1 23 := ⟨by decide +kernel, rfl⟩
theorem dX6_differs_23 : Dc cX6_differs 23 (.iconst 2) 1 24 := ⟨by decide +kernel, rfl⟩
theorem dX6_differs_24 : Dc cX6_differs 24 (.invokevirtual 37) 3 27 := ⟨by decide +kernel, rfl⟩
theorem dX6_differs_27 : Dc cX6_differs 27 (.aload_n 0) 1 28 := ⟨by decide +kernel, rfl⟩
theorem dX6_differs_28 : Dc cX6_differs 28 (.iload_n 1) 1 29 := ⟨by decide +kernel, rfl⟩
theorem dX6_differs_29 : Dc cX6_differs 29 (.iconst 2) 1 30 := ⟨by decide +kernel, rfl⟩
theorem dX6_differs_30 : Dc cX6_differs 30 (.invokevirtual 37) 3 33 := ⟨by decide +kernel, rfl⟩
theorem dX6_differs_33 : Dj cX6_differs 33 (.if_icmp .ne 15) 3 36 (15) 48 := ⟨by decide +kernel, rfl, by decide⟩
theorem dX6_differs_36 : Dc cX6_differs 36 (.aload_n 0) 1 37 := ⟨by decide +kernel, rfl⟩
theorem dX6_differs_37 : Dc cX6_differs 37 (.iload_n 3) 1 38 := ⟨by decide +kernel, rfl⟩
theorem dX6_differs_38 : Dc cX6_differs 38 (.invokevirtual 74) 3 41 := ⟨by decide +kernel, rfl⟩
theorem dX6_differs_41 : Dj cX6_differs 41 (.ifCond .eq 7) 3 44 (7) 48 := ⟨by decide +kernel, rfl, by decide⟩
theorem dX6_differs_44 : Dc cX6_differs 44 (.iconst 1) 1 45 := ⟨by decide +kernel, rfl⟩
theorem dX6_differs_45 : Dj cX6_differs 45 (.goto 4) 3 48 (4) 49 := ⟨by decide +kernel, rfl, by decide⟩
theorem dX6_differs_48 : Dc cX6_differs 48 (.iconst 0) 1 49 := ⟨by decide +kernel, rfl⟩
theorem dX6_differs_49 : Dc cX6_differs 49 (.istore 4) 2 51 := ⟨by decide +kernel, rfl⟩
theorem dX6_differs_51 : Dc cX6_differs 51 (.iload_n 2) 1 52 := ⟨by decide +kernel, rfl⟩
theorem dX6_differs_52 : Dj cX6_differs 52 (.ifCond .ne 28) 3 55 (28) 80 := ⟨by decide +kernel, rfl, by decide⟩
theorem dX6_differs_55 : Dc cX6_differs 55 (.iload 4) 2 57 := ⟨by decide +kernel, rfl⟩
theorem dX6_differs_57 : Dj cX6_differs 57 (.ifCond .eq 27) 3 60 (27) 84 := ⟨by decide +kernel, rfl, by decide⟩
theorem dX6_differs_60 : Dc cX6_differs 60 (.aload_n 0) 1 61 := ⟨by decide +kernel, rfl⟩
theorem dX6_differs_61 : Dc cX6_differs 61 (.iload_n 1) 1 62 := ⟨by decide +kernel, rfl⟩
theorem dX6_differs_62 : Dc cX6_differs 62 (.iload_n 3) 1 63 := ⟨by decide +kernel, rfl⟩
theorem dX6_differs_63 : Dc cX6_differs 63 (.sipush 500) 3 66 := ⟨by decide +kernel, rfl⟩
theorem dX6_differs_66 : Dc cX6_differs 66 (.invokevirtual 77) 3 69 := ⟨by decide +kernel, rfl⟩
theorem dX6_differs_69 : Dc cX6_differs 69 (.aload_n 0) 1 70 := ⟨by decide +kernel, rfl⟩
theorem dX6_differs_70 : Dc cX6_differs 70 (.getfield 7) 3 73 := ⟨by decide +kernel, rfl⟩
theorem dX6_differs_73 : Dc cX6_differs 73 (.sipush 240) 3 76 := ⟨by decide +kernel, rfl⟩
theorem dX6_differs_76 : Dc cX6_differs 76 (.iaload) 1 77 := ⟨by decide +kernel, rfl⟩
theorem dX6_differs_77 : Dj cX6_differs 77 (.if_icmp .le 7) 3 80 (7) 84 := ⟨by decide +kernel, rfl, by decide⟩
theorem dX6_differs_80 : Dc cX6_differs 80 (.iconst 1) 1 81 := ⟨by decide +kernel, rfl⟩
theorem dX6_differs_81 : Dj cX6_differs 81 (.goto 4) 3 84 (4) 85 := ⟨by decide +kernel, rfl, by decide⟩
theorem dX6_differs_84 : Dc cX6_differs 84 (.iconst 0) 1 85 := ⟨by decide +kernel, rfl⟩
theorem dX6_differs_85 : Dc cX6_differs 85 (.istore_n 2) 1 86 := ⟨by decide +kernel, rfl⟩
theorem dX6_differs_86 : Dc cX6_differs 86 (.iinc 3 1) 3 89 := ⟨by decide +kernel, rfl⟩
theorem dX6_differs_89 : Dj cX6_differs 89 (.goto (-85)) 3 92 (-85) 4 := ⟨by decide +kernel, rfl, by decide⟩
theorem dX6_differs_92 : Dc cX6_differs 92 (.iload_n 2) 1 93 := ⟨by decide +kernel, rfl⟩
theorem dX6_differs_93 : Dc cX6_differs 93 (.ireturn) 1 94 := ⟨by decide +kernel, rfl⟩
def LX6_differs_4 (k92 : Int32 → Option Int32) (o : OM) (v1 : Int32) : Nat → Int32 → Int32 → Option Int32
  | 0 => fun _ _ => none
  | n + 1 => fun v2_2 v3_3 => grd (inB ((228 : Int32)) 244) (if (rd o 20 0 ((228 : Int32)).toNatClampNeg) ≤ v3_3 then (k92 v2_2) else (bd (fun (s_4 : Int32) => bd (fun (s_5 : Int32) => bd (v3_3 + (1 : Int32)) (fun v3_6 : Int32 => (LX6_differs_4 k92 o v1 n) s_5 v3_6)) (fun k85 => bd (fun (_ : Unit) => k85 ((1 : Int32))) (fun k80 => if v2_2 = 0 then (bd (fun (_ : Unit) => k85 ((0 : Int32))) (fun k84 => if s_4 = 0 then (k84 ()) else (bq (F_X6_overlapOf o v1 v3_3 ((500 : Int32))) (fun r_7 => grd (inB ((240 : Int32)) 244) (if r_7 ≤ (rd o 20 0 ((240 : Int32)).toNatClampNeg) then (k84 ()) else (k80 ())))))) else (k80 ())))) (fun k49 => bd (fun (_ : Unit) => k49 ((0 : Int32))) (fun k48 => if v3_3 = v1 then (k48 ()) else (bq (F_X6_get o v3_3 ((2 : Int32))) (fun r_8 => bq (F_X6_get o v1 ((2 : Int32))) (fun r_9 => if r_8 = r_9 then (bq (F_X6_isValid o v3_3) (fun r_10 => if r_10 = 0 then (k48 ()) else (k49 ((1 : Int32))))) else (k48 ()))))))))
def F_X6_differs (o : OM) (v1 : Int32) : Option Int32 := bd (fun (v2_1 : Int32) => grd (isZ v2_1) (some v2_1)) (fun k92 => LX6_differs_4 k92 o v1 FU ((0 : Int32)) ((0 : Int32)))
abbrev rmX6_differs : Room := { frames := 5, cells := 0, slots := 0, locals := 123 }
set_option maxHeartbeats 4000000 in
set_option maxRecDepth 100000 in
theorem lX6_differs_4 {G : Gd} {p : Program} {l : Launch} {e : Env} {s : State} {m : MethodId} {args : Array Value} {below : List Frame} {meth : Method} {c : Code} {r : Int32} {o : OM} {v1 : Int32} (C : Cx G RX6 cX6_differs 5 (some .boolean) p s m args meth c)  {k92 : Int32 → Option Int32} (j92 : ∀ (v2_1 : Int32) H1 L1 ls, Hp G o s H1 L1 → lv_has ls 5 [(2, .int v2_1)] → k92 v2_1 = some r → W p l e rmX6_differs s m args below meth c H1 L1 0 0 (Qm G (some (.int r)) o rmX6_differs below args s) (F0 m 92 ls [])) : ∀ (n : Nat) (v2_2 : Int32) (v3_3 : Int32) H1 L1 ls, Hp G o s H1 L1 → lv_has ls 5 [(0, .ref (rA G 19 0)), (1, .int v1), (2, .int v2_2), (3, .int v3_3)] → LX6_differs_4 k92 o v1 n v2_2 v3_3 = some r → W p l e rmX6_differs s m args below meth c H1 L1 0 0 (Qm G (some (.int r)) o rmX6_differs below args s) (F0 m 4 ls []) := by
  intro n
  induction n with
  | zero =>
    intro v2_2 v3_3 H1 L1 ls P hl hf
    exact nomatch hf
  | succ n ih =>
    intro v2_2 v3_3 H1 L1 ls P hl hf
    rw [LX6_differs_4.eq_2] at hf
    refine r_iload_n C hl 3 rfl rfl dX6_differs_4 ?_
    refine r_aload_n C hl 0 rfl rfl dX6_differs_5 ?_
    refine gf_19_1 C P rfl wd_880 dX6_differs_6 ?_
    refine r_sipush C (v := 228) (by decide) dX6_differs_9 ?_
    refine r_iald C P (k := 20) (i := 0) (n := 244) (fun _ _ => rfl) rfl dX6_differs_12 hf (fun hf => ?_)
    refine r_icmp_ge C dX6_differs_13 hf (fun hf => ?_) (fun hf => ?_)
    · exact j92 v2_2 _ _ _ P (lv_sub hl [2] rfl) hf
    · refine r_iload_n C hl 3 rfl rfl dX6_differs_16 ?_
      refine r_iload_n C hl 1 rfl rfl dX6_differs_17 ?_
      refine r_jn (fun k49 : Int32 → Option Int32 => ∀ (s_4 : Int32) H1 L1 ls, Hp G o s H1 L1 → lv_has ls 5 [(0, .ref (rA G 19 0)), (1, .int v1), (2, .int v2_2), (3, .int v3_3)] → k49 s_4 = some r → W p l e rmX6_differs s m args below meth c H1 L1 0 0 (Qm G (some (.int r)) o rmX6_differs below args s) (F0 m 49 ls [.int s_4])) hf ?_ (fun k49 j49 hf => ?_)
      · intro s_4 H1 L1 ls  P hl hf
        refine r_istore C [(4, .int s_4), (0, .ref (rA G 19 0)), (1, .int v1), (2, .int v2_2), (3, .int v3_3)] hl (by decide) rfl dX6_differs_49 (fun ls hl => ?_)
        refine r_iload_n C hl 3 rfl rfl dX6_differs_51 ?_
        refine r_jn (fun k85 : Int32 → Option Int32 => ∀ (s_5 : Int32) H1 L1 ls, Hp G o s H1 L1 → lv_has ls 5 [(0, .ref (rA G 19 0)), (1, .int v1), (3, .int v3_3)] → k85 s_5 = some r → W p l e rmX6_differs s m args below meth c H1 L1 0 0 (Qm G (some (.int r)) o rmX6_differs below args s) (F0 m 85 ls [.int s_5])) hf ?_ (fun k85 j85 hf => ?_)
        · intro s_5 H1 L1 ls  P hl hf
          refine r_istore_n C [(2, .int s_5), (0, .ref (rA G 19 0)), (1, .int v1), (3, .int v3_3)] hl (by decide) rfl rfl dX6_differs_85 (fun ls hl => ?_)
          refine r_iinc C (fun v3_6 => [(3, .int v3_6), (2, .int s_5), (0, .ref (rA G 19 0)), (1, .int v1)]) (w := 1) 3 hl rfl (by decide) (by decide) (fun _ => rfl) dX6_differs_86 hf (fun v3_6 ls hl hf => ?_)
          refine r_goto C dX6_differs_89 ?_
          exact ih s_5 v3_6 _ _ _ P (lv_sub hl [2, 3, 1, 0] rfl) hf
        refine r_jn (fun k80 : Unit → Option Int32 => ∀ H1 L1 ls, Hp G o s H1 L1 → lv_has ls 5 [(0, .ref (rA G 19 0)), (1, .int v1), (3, .int v3_3)] → k80 () = some r → W p l e rmX6_differs s m args below meth c H1 L1 0 0 (Qm G (some (.int r)) o rmX6_differs below args s) (F0 m 80 ls [])) hf ?_ (fun k80 j80 hf => ?_)
        · intro  H1 L1 ls  P hl hf
          refine r_iconst C (v := 1) (by decide) dX6_differs_80 ?_
          refine r_goto C dX6_differs_81 ?_
          exact j85 ((1 : Int32)) _ _ _ P (lv_sub hl [0, 1, 2] rfl) hf
        refine r_if_ne C dX6_differs_52 hf (fun hf => ?_) (fun hf => ?_)
        · exact j80  _ _ _ P (lv_sub hl [1, 2, 4] rfl) hf
        · refine r_iload C hl 0 rfl dX6_differs_55 ?_
          refine r_jn (fun k84 : Unit → Option Int32 => ∀ H1 L1 ls, Hp G o s H1 L1 → lv_has ls 5 [(0, .ref (rA G 19 0)), (1, .int v1), (3, .int v3_3)] → k84 () = some r → W p l e rmX6_differs s m args below meth c H1 L1 0 0 (Qm G (some (.int r)) o rmX6_differs below args s) (F0 m 84 ls [])) hf ?_ (fun k84 j84 hf => ?_)
          · intro  H1 L1 ls  P hl hf
            refine r_iconst C (v := 0) (by decide) dX6_differs_84 ?_
            exact j85 ((0 : Int32)) _ _ _ P (lv_sub hl [0, 1, 2] rfl) hf
          refine r_if_eq C dX6_differs_57 hf (fun hf => ?_) (fun hf => ?_)
          · exact j84  _ _ _ P (lv_sub hl [1, 2, 4] rfl) hf
          · refine r_aload_n C hl 1 rfl rfl dX6_differs_60 ?_
            refine r_iload_n C hl 2 rfl rfl dX6_differs_61 ?_
            refine r_iload_n C hl 4 rfl rfl dX6_differs_62 ?_
            refine r_sipush C (v := 500) (by decide) dX6_differs_63 ?_
            refine r_qVi C P cf_X6_77 (rm := rmX6_overlapOf) 19 0 (fun _ _ => ⟨_, rfl⟩) rfl rfl rfl [.int v1, .int v3_3, .int ((500 : Int32))] [] hf (fun _ h => ctX6_overlapOf l G o v1 v3_3 ((500 : Int32)) h) ⟨rfl, rfl⟩ ⟨Nat.le_of_ble_eq_true rfl, Nat.le_of_ble_eq_true rfl⟩ ⟨Nat.le_of_ble_eq_true rfl, Nat.le_of_ble_eq_true rfl⟩ rfl rfl hl.1 (Nat.le_of_ble_eq_true rfl) dX6_differs_66 (fun r_7 H1 L1 P hf => ?_)
            refine r_aload_n C hl 1 rfl rfl dX6_differs_69 ?_
            refine gf_19_1 C P rfl wd_880 dX6_differs_70 ?_
            refine r_sipush C (v := 240) (by decide) dX6_differs_73 ?_
            refine r_iald C P (k := 20) (i := 0) (n := 244) (fun _ _ => rfl) rfl dX6_differs_76 hf (fun hf => ?_)
            refine r_icmp_le C dX6_differs_77 hf (fun hf => ?_) (fun hf => ?_)
            · exact j84  _ _ _ P (lv_sub hl [1, 2, 4] rfl) hf
            · exact j80  _ _ _ P (lv_sub hl [1, 2, 4] rfl) hf
      refine r_jn (fun k48 : Unit → Option Int32 => ∀ H1 L1 ls, Hp G o s H1 L1 → lv_has ls 5 [(0, .ref (rA G 19 0)), (1, .int v1), (2, .int v2_2), (3, .int v3_3)] → k48 () = some r → W p l e rmX6_differs s m args below meth c H1 L1 0 0 (Qm G (some (.int r)) o rmX6_differs below args s) (F0 m 48 ls [])) hf ?_ (fun k48 j48 hf => ?_)
      · intro  H1 L1 ls  P hl hf
        refine r_iconst C (v := 0) (by decide) dX6_differs_48 ?_
        exact j49 ((0 : Int32)) _ _ _ P (lv_sub hl [0, 1, 2, 3] rfl) hf
      refine r_icmp_eq C dX6_differs_18 hf (fun hf => ?_) (fun hf => ?_)
      · exact j48  _ _ _ P (lv_sub hl [0, 1, 2, 3] rfl) hf
      · refine r_aload_n C hl 0 rfl rfl dX6_differs_21 ?_
        refine r_iload_n C hl 3 rfl rfl dX6_differs_22 ?_
        refine r_iconst C (v := 2) (by decide) dX6_differs_23 ?_
        refine r_qVi C P cf_X6_37 (rm := rmX6_get) 19 0 (fun _ _ => ⟨_, rfl⟩) rfl rfl rfl [.int v3_3, .int ((2 : Int32))] [] hf (fun _ h => ctX6_get l G o v3_3 ((2 : Int32)) h) ⟨rfl, rfl⟩ ⟨Nat.le_of_ble_eq_true rfl, Nat.le_of_ble_eq_true rfl⟩ ⟨Nat.le_of_ble_eq_true rfl, Nat.le_of_ble_eq_true rfl⟩ rfl rfl hl.1 (Nat.le_of_ble_eq_true rfl) dX6_differs_24 (fun r_8 H1 L1 P hf => ?_)
        refine r_aload_n C hl 0 rfl rfl dX6_differs_27 ?_
        refine r_iload_n C hl 1 rfl rfl dX6_differs_28 ?_
        refine r_iconst C (v := 2) (by decide) dX6_differs_29 ?_
        refine r_qVi C P cf_X6_37 (rm := rmX6_get) 19 0 (fun _ _ => ⟨_, rfl⟩) rfl rfl rfl [.int v1, .int ((2 : Int32))] [.int r_8] hf (fun _ h => ctX6_get l G o v1 ((2 : Int32)) h) ⟨rfl, rfl⟩ ⟨Nat.le_of_ble_eq_true rfl, Nat.le_of_ble_eq_true rfl⟩ ⟨Nat.le_of_ble_eq_true rfl, Nat.le_of_ble_eq_true rfl⟩ rfl rfl hl.1 (Nat.le_of_ble_eq_true rfl) dX6_differs_30 (fun r_9 H1 L1 P hf => ?_)
        refine r_icmp_ne C dX6_differs_33 hf (fun hf => ?_) (fun hf => ?_)
        · exact j48  _ _ _ P (lv_sub hl [0, 1, 2, 3] rfl) hf
        · refine r_aload_n C hl 0 rfl rfl dX6_differs_36 ?_
          refine r_iload_n C hl 3 rfl rfl dX6_differs_37 ?_
          refine r_qVi C P cf_X6_74 (rm := rmX6_isValid) 19 0 (fun _ _ => ⟨_, rfl⟩) rfl rfl rfl [.int v3_3] [] hf (fun _ h => ctX6_isValid l G o v3_3 h) ⟨rfl, rfl⟩ ⟨Nat.le_of_ble_eq_true rfl, Nat.le_of_ble_eq_true rfl⟩ ⟨Nat.le_of_ble_eq_true rfl, Nat.le_of_ble_eq_true rfl⟩ rfl rfl hl.1 (Nat.le_of_ble_eq_true rfl) dX6_differs_38 (fun r_10 H1 L1 P hf => ?_)
          refine r_if_eq C dX6_differs_41 hf (fun hf => ?_) (fun hf => ?_)
          · exact j48  _ _ _ P (lv_sub hl [0, 1, 2, 3] rfl) hf
          · refine r_iconst C (v := 1) (by decide) dX6_differs_44 ?_
            refine r_goto C dX6_differs_45 ?_
            exact j49 ((1 : Int32)) _ _ _ P (lv_sub hl [0, 1, 2, 3] rfl) hf
set_option maxHeartbeats 4000000 in
set_option maxRecDepth 100000 in
theorem wX6_differs {G : Gd} {p : Program} {l : Launch} {e : Env} {s : State} {m : MethodId} {args : Array Value} {below : List Frame} {meth : Method} {c : Code} {o : OM} {H : Heap} {L0 : List Loc} {ls : Array Slot} {r : Int32} {v1 : Int32} (C : Cx G RX6 cX6_differs 5 (some .boolean) p s m args meth c)  (P : Hp G o s H L0) (hl : lv_has ls 5 [(0, .ref (rA G 19 0)), (1, .int v1)]) (hf : F_X6_differs o v1 = some r) : W p l e rmX6_differs s m args below meth c H L0 0 0 (Qm G (some (.int r)) o rmX6_differs below args s) (F0 m 0 ls []) := by
  unfold F_X6_differs at hf
  refine r_iconst C (v := 0) (by decide) dX6_differs_0 ?_
  refine r_istore_n C [(2, .int ((0 : Int32))), (0, .ref (rA G 19 0)), (1, .int v1)] hl (by decide) rfl rfl dX6_differs_1 (fun ls hl => ?_)
  refine r_iconst C (v := 0) (by decide) dX6_differs_2 ?_
  refine r_istore_n C [(3, .int ((0 : Int32))), (2, .int ((0 : Int32))), (0, .ref (rA G 19 0)), (1, .int v1)] hl (by decide) rfl rfl dX6_differs_3 (fun ls hl => ?_)
  refine r_jn (fun k92 : Int32 → Option Int32 => ∀ (v2_1 : Int32) H1 L1 ls, Hp G o s H1 L1 → lv_has ls 5 [(2, .int v2_1)] → k92 v2_1 = some r → W p l e rmX6_differs s m args below meth c H1 L1 0 0 (Qm G (some (.int r)) o rmX6_differs below args s) (F0 m 92 ls [])) hf ?_ (fun k92 j92 hf => ?_)
  · intro v2_1 H1 L1 ls  P hl hf
    refine r_iload_n C hl 0 rfl rfl dX6_differs_92 ?_
    exact q_zret C P (rm := rmX6_differs) ⟨rfl, rfl⟩ dX6_differs_93 hf
  exact lX6_differs_4 C  j92 FU ((0 : Int32)) ((0 : Int32)) _ _ _ P (lv_sub hl [2, 3, 1, 0] rfl) hf
theorem ctX6_differs (l : Launch) (G : Gd) (o : OM) (v1 : Int32)  {r : Int32} (hf : F_X6_differs o v1 = some r) : Ct l yX6_differs cX6_differs 5 (some .boolean) rmX6_differs G [.ref (rA G 19 0), .int v1] o (some (.int r)) o := ct_of (by decide +kernel) (Nat.le_of_ble_eq_true rfl) (fun p e s m below meth c ls C P hl => wX6_differs C  P hl hf)
theorem cf_X6_80 : CallF false RX6 80 yX6_isOld cX6_isOld 3 (some .boolean) 2 := ⟨wd_1039, (by rw [if_neg (by decide)]; exact ⟨wd_1041, wd_35⟩), wd_71, wd_1042, by decide, by decide +kernel⟩
theorem cf_X6_84 : CallF false RX6 84 yX6_differs cX6_differs 5 (some .boolean) 1 := ⟨wd_1047, (by rw [if_neg (by decide)]; exact ⟨wd_1049, wd_37⟩), wd_71, wd_1050, by decide, by decide +kernel⟩
theorem dX6_refusal_0 : Dc cX6_refusal 0 (.aload_n 0) 1 1 := ⟨by decide +kernel, rfl⟩
theorem dX6_refusal_1 : Dc cX6_refusal 1 (.iload_n 1) 1 2 := ⟨by decide +kernel, rfl⟩
theorem dX6_refusal_2 : Dc cX6_refusal 2 (.iconst 0) 1 3 := ⟨by decide +kernel, rfl⟩
theorem dX6_refusal_3 : Dc cX6_refusal 3 (.invokevirtual 47) 3 6 := ⟨by decide +kernel, rfl⟩
theorem dX6_refusal_6 : Dc cX6_refusal 6 (.iconst (-1)) 1 7 := ⟨by decide +kernel, rfl⟩
theorem dX6_refusal_7 : Dj cX6_refusal 7 (.if_icmp .eq 15) 3 10 (15) 22 := ⟨by decide +kernel, rfl, by decide⟩
theorem dX6_refusal_10 : Dc cX6_refusal 10 (.aload_n 0) 1 11 := ⟨by decide +kernel, rfl⟩
theorem dX6_refusal_11 : Dc cX6_refusal 11 (.iload_n 1) 1 12 := ⟨by decide +kernel, rfl⟩
theorem dX6_refusal_12 : Dc cX6_refusal 12 (.sipush 1000) 3 15 := ⟨by decide +kernel, rfl⟩
theorem dX6_refusal_15 : Dc cX6_refusal 15 (.invokevirtual 47) 3 18 := ⟨by decide +kernel, rfl⟩
theorem dX6_refusal_18 : Dc cX6_refusal 18 (.iconst (-1)) 1 19 := ⟨by decide +kernel, rfl⟩
theorem dX6_refusal_19 : Dj cX6_refusal 19 (.if_icmp .ne 5) 3 22 (5) 24 := ⟨by decide +kernel, rfl, by decide⟩
theorem dX6_refusal_22 : Dc cX6_refusal 22 (.iconst 3) 1 23 := ⟨by decide +kernel, rfl⟩
theorem dX6_refusal_23 : Dc cX6_refusal 23 (.ireturn) 1 24 := ⟨by decide +kernel, rfl⟩
theorem dX6_refusal_24 : Dc cX6_refusal 24 (.aload_n 0) 1 25 := ⟨by decide +kernel, rfl⟩
theorem dX6_refusal_25 : Dc cX6_refusal 25 (.iload_n 1) 1 26 := ⟨by decide +kernel, rfl⟩
theorem dX6_refusal_26 : Dc cX6_refusal 26 (.iconst 0) 1 27 := ⟨by decide +kernel, rfl⟩
theorem dX6_refusal_27 : Dc cX6_refusal 27 (.invokevirtual 80) 3 30 := ⟨by decide +kernel, rfl⟩
theorem dX6_refusal_30 : Dj cX6_refusal 30 (.ifCond .ne 14) 3 33 (14) 44 := ⟨by decide +kernel, rfl, by decide⟩
theorem dX6_refusal_33 : Dc cX6_refusal 33 (.aload_n 0) 1 34 := ⟨by decide +kernel, rfl⟩
theorem dX6_refusal_34 : Dc cX6_refusal 34 (.iload_n 1) 1 35 := ⟨by decide +kernel, rfl⟩
theorem dX6_refusal_35 : Dc cX6_refusal 35 (.sipush 1000) 3 38 := ⟨by decide +kernel, rfl⟩
theorem dX6_refusal_38 : Dc cX6_refusal 38 (.invokevirtual 80) 3 41 := ⟨by decide +kernel, rfl⟩
theorem dX6_refusal_41 : Dj cX6_refusal 41 (.ifCond .eq 5) 3 44 (5) 46 := ⟨by decide +kernel, rfl, by decide⟩
theorem dX6_refusal_44 : Dc cX6_refusal 44 (.iconst 4) 1 45 := ⟨by decide +kernel, rfl⟩
theorem dX6_refusal_45 : Dc cX6_refusal 45 (.ireturn) 1 46 := ⟨by decide +kernel, rfl⟩
theorem dX6_refusal_46 : Dc cX6_refusal 46 (.aload_n 0) 1 47 := ⟨by decide +kernel, rfl⟩
theorem dX6_refusal_47 : Dc cX6_refusal 47 (.iload_n 1) 1 48 := ⟨by decide +kernel, rfl⟩
theorem dX6_refusal_48 : Dc cX6_refusal 48 (.invokevirtual 74) 3 51 := ⟨by decide +kernel, rfl⟩
theorem dX6_refusal_51 : Dj cX6_refusal 51 (.ifCond .eq 7) 3 54 (7) 58 := ⟨by decide +kernel, rfl, by decide⟩
theorem dX6_refusal_54 : Dc cX6_refusal 54 (.iconst 5) 1 55 := ⟨by decide +kernel, rfl⟩
theorem dX6_refusal_55 : Dj cX6_refusal 55 (.goto 17) 3 58 (17) 72 := ⟨by decide +kernel, rfl, by decide⟩
theorem dX6_refusal_58 : Dc cX6_refusal 58 (.aload_n 0) 1 59 := ⟨by decide +kernel, rfl⟩
theorem dX6_refusal_59 : Dc cX6_refusal 59 (.iload_n 1) 1 60 := ⟨by decide +kernel, rfl⟩
theorem dX6_refusal_60 : Dc cX6_refusal 60 (.invokevirtual 84) 3 63 := ⟨by decide +kernel, rfl⟩
theorem dX6_refusal_63 : Dj cX6_refusal 63 (.ifCond .eq 8) 3 66 (8) 71 := ⟨by decide +kernel, rfl, by decide⟩
theorem dX6_refusal_66 : Dc cX6_refusal 66 (.bipush 6) 2 68 := ⟨by decide +kernel, rfl⟩
theorem dX6_refusal_68 : Dj cX6_refusal 68 (.goto 4) 3 71 (4) 72 := ⟨by decide +kernel, rfl, by decide⟩
theorem dX6_refusal_71 : Dc cX6_refusal 71 (.iconst 0) 1 72 := ⟨by decide +kernel, rfl⟩
theorem dX6_refusal_72 : Dc cX6_refusal 72 (.ireturn) 1 73 := ⟨by decide +kernel, rfl⟩
def F_X6_refusal (o : OM) (v1 : Int32) : Option Int32 := bq (F_X6_pointAt o v1 ((0 : Int32))) (fun r_1 => bd (fun (_ : Unit) => some ((3 : Int32))) (fun k22 => if r_1 = ((-1 : Int32)) then (k22 ()) else (bq (F_X6_pointAt o v1 ((1000 : Int32))) (fun r_2 => if r_2 = ((-1 : Int32)) then (k22 ()) else (bq (F_X6_isOld o v1 ((0 : Int32))) (fun r_3 => bd (fun (_ : Unit) => some ((4 : Int32))) (fun k44 => if r_3 = 0 then (bq (F_X6_isOld o v1 ((1000 : Int32))) (fun r_4 => if r_4 = 0 then (bq (F_X6_isValid o v1) (fun r_5 => bd (fun (s_6 : Int32) => some s_6) (fun k72 => if r_5 = 0 then (bq (F_X6_differs o v1) (fun r_7 => if r_7 = 0 then (k72 ((0 : Int32))) else (k72 ((6 : Int32))))) else (k72 ((5 : Int32)))))) else (k44 ()))) else (k44 ()))))))))
abbrev rmX6_refusal : Room := { frames := 6, cells := 0, slots := 0, locals := 147 }
set_option maxHeartbeats 4000000 in
set_option maxRecDepth 100000 in
theorem wX6_refusal {G : Gd} {p : Program} {l : Launch} {e : Env} {s : State} {m : MethodId} {args : Array Value} {below : List Frame} {meth : Method} {c : Code} {o : OM} {H : Heap} {L0 : List Loc} {ls : Array Slot} {r : Int32} {v1 : Int32} (C : Cx G RX6 cX6_refusal 2 (some .int) p s m args meth c)  (P : Hp G o s H L0) (hl : lv_has ls 2 [(0, .ref (rA G 19 0)), (1, .int v1)]) (hf : F_X6_refusal o v1 = some r) : W p l e rmX6_refusal s m args below meth c H L0 0 0 (Qm G (some (.int r)) o rmX6_refusal below args s) (F0 m 0 ls []) := by
  unfold F_X6_refusal at hf
  refine r_aload_n C hl 0 rfl rfl dX6_refusal_0 ?_
  refine r_iload_n C hl 1 rfl rfl dX6_refusal_1 ?_
  refine r_iconst C (v := 0) (by decide) dX6_refusal_2 ?_
  refine r_qVi C P cf_X6_47 (rm := rmX6_pointAt) 19 0 (fun _ _ => ⟨_, rfl⟩) rfl rfl rfl [.int v1, .int ((0 : Int32))] [] hf (fun _ h => ctX6_pointAt l G o v1 ((0 : Int32)) h) ⟨rfl, rfl⟩ ⟨Nat.le_of_ble_eq_true rfl, Nat.le_of_ble_eq_true rfl⟩ ⟨Nat.le_of_ble_eq_true rfl, Nat.le_of_ble_eq_true rfl⟩ rfl rfl hl.1 (Nat.le_of_ble_eq_true rfl) dX6_refusal_3 (fun r_1 H1 L1 P hf => ?_)
  refine r_iconst C (v := -1) (by decide) dX6_refusal_6 ?_
  refine r_jn (fun k22 : Unit → Option Int32 => ∀ H1 L1 ls, Hp G o s H1 L1 → lv_has ls 2 [] → k22 () = some r → W p l e rmX6_refusal s m args below meth c H1 L1 0 0 (Qm G (some (.int r)) o rmX6_refusal below args s) (F0 m 22 ls [])) hf ?_ (fun k22 j22 hf => ?_)
  · intro  H1 L1 ls  P hl hf
    refine r_iconst C (v := 3) (by decide) dX6_refusal_22 ?_
    exact q_iret C P (rm := rmX6_refusal) ⟨rfl, rfl⟩ dX6_refusal_23 hf
  refine r_icmp_eq C dX6_refusal_7 hf (fun hf => ?_) (fun hf => ?_)
  · exact j22  _ _ _ P (lv_sub hl [] rfl) hf
  · refine r_aload_n C hl 0 rfl rfl dX6_refusal_10 ?_
    refine r_iload_n C hl 1 rfl rfl dX6_refusal_11 ?_
    refine r_sipush C (v := 1000) (by decide) dX6_refusal_12 ?_
    refine r_qVi C P cf_X6_47 (rm := rmX6_pointAt) 19 0 (fun _ _ => ⟨_, rfl⟩) rfl rfl rfl [.int v1, .int ((1000 : Int32))] [] hf (fun _ h => ctX6_pointAt l G o v1 ((1000 : Int32)) h) ⟨rfl, rfl⟩ ⟨Nat.le_of_ble_eq_true rfl, Nat.le_of_ble_eq_true rfl⟩ ⟨Nat.le_of_ble_eq_true rfl, Nat.le_of_ble_eq_true rfl⟩ rfl rfl hl.1 (Nat.le_of_ble_eq_true rfl) dX6_refusal_15 (fun r_2 H1 L1 P hf => ?_)
    refine r_iconst C (v := -1) (by decide) dX6_refusal_18 ?_
    refine r_icmp_ne C dX6_refusal_19 hf (fun hf => ?_) (fun hf => ?_)
    · refine r_aload_n C hl 0 rfl rfl dX6_refusal_24 ?_
      refine r_iload_n C hl 1 rfl rfl dX6_refusal_25 ?_
      refine r_iconst C (v := 0) (by decide) dX6_refusal_26 ?_
      refine r_qVi C P cf_X6_80 (rm := rmX6_isOld) 19 0 (fun _ _ => ⟨_, rfl⟩) rfl rfl rfl [.int v1, .int ((0 : Int32))] [] hf (fun _ h => ctX6_isOld l G o v1 ((0 : Int32)) h) ⟨rfl, rfl⟩ ⟨Nat.le_of_ble_eq_true rfl, Nat.le_of_ble_eq_true rfl⟩ ⟨Nat.le_of_ble_eq_true rfl, Nat.le_of_ble_eq_true rfl⟩ rfl rfl hl.1 (Nat.le_of_ble_eq_true rfl) dX6_refusal_27 (fun r_3 H1 L1 P hf => ?_)
      refine r_jn (fun k44 : Unit → Option Int32 => ∀ H1 L1 ls, Hp G o s H1 L1 → lv_has ls 2 [] → k44 () = some r → W p l e rmX6_refusal s m args below meth c H1 L1 0 0 (Qm G (some (.int r)) o rmX6_refusal below args s) (F0 m 44 ls [])) hf ?_ (fun k44 j44 hf => ?_)
      · intro  H1 L1 ls  P hl hf
        refine r_iconst C (v := 4) (by decide) dX6_refusal_44 ?_
        exact q_iret C P (rm := rmX6_refusal) ⟨rfl, rfl⟩ dX6_refusal_45 hf
      refine r_if_ne C dX6_refusal_30 hf (fun hf => ?_) (fun hf => ?_)
      · exact j44  _ _ _ P (lv_sub hl [] rfl) hf
      · refine r_aload_n C hl 0 rfl rfl dX6_refusal_33 ?_
        refine r_iload_n C hl 1 rfl rfl dX6_refusal_34 ?_
        refine r_sipush C (v := 1000) (by decide) dX6_refusal_35 ?_
        refine r_qVi C P cf_X6_80 (rm := rmX6_isOld) 19 0 (fun _ _ => ⟨_, rfl⟩) rfl rfl rfl [.int v1, .int ((1000 : Int32))] [] hf (fun _ h => ctX6_isOld l G o v1 ((1000 : Int32)) h) ⟨rfl, rfl⟩ ⟨Nat.le_of_ble_eq_true rfl, Nat.le_of_ble_eq_true rfl⟩ ⟨Nat.le_of_ble_eq_true rfl, Nat.le_of_ble_eq_true rfl⟩ rfl rfl hl.1 (Nat.le_of_ble_eq_true rfl) dX6_refusal_38 (fun r_4 H1 L1 P hf => ?_)
        refine r_if_eq C dX6_refusal_41 hf (fun hf => ?_) (fun hf => ?_)
        · refine r_aload_n C hl 0 rfl rfl dX6_refusal_46 ?_
          refine r_iload_n C hl 1 rfl rfl dX6_refusal_47 ?_
          refine r_qVi C P cf_X6_74 (rm := rmX6_isValid) 19 0 (fun _ _ => ⟨_, rfl⟩) rfl rfl rfl [.int v1] [] hf (fun _ h => ctX6_isValid l G o v1 h) ⟨rfl, rfl⟩ ⟨Nat.le_of_ble_eq_true rfl, Nat.le_of_ble_eq_true rfl⟩ ⟨Nat.le_of_ble_eq_true rfl, Nat.le_of_ble_eq_true rfl⟩ rfl rfl hl.1 (Nat.le_of_ble_eq_true rfl) dX6_refusal_48 (fun r_5 H1 L1 P hf => ?_)
          refine r_jn (fun k72 : Int32 → Option Int32 => ∀ (s_6 : Int32) H1 L1 ls, Hp G o s H1 L1 → lv_has ls 2 [] → k72 s_6 = some r → W p l e rmX6_refusal s m args below meth c H1 L1 0 0 (Qm G (some (.int r)) o rmX6_refusal below args s) (F0 m 72 ls [.int s_6])) hf ?_ (fun k72 j72 hf => ?_)
          · intro s_6 H1 L1 ls  P hl hf
            exact q_iret C P (rm := rmX6_refusal) ⟨rfl, rfl⟩ dX6_refusal_72 hf
          refine r_if_eq C dX6_refusal_51 hf (fun hf => ?_) (fun hf => ?_)
          · refine r_aload_n C hl 0 rfl rfl dX6_refusal_58 ?_
            refine r_iload_n C hl 1 rfl rfl dX6_refusal_59 ?_
            refine r_qVi C P cf_X6_84 (rm := rmX6_differs) 19 0 (fun _ _ => ⟨_, rfl⟩) rfl rfl rfl [.int v1] [] hf (fun _ h => ctX6_differs l G o v1 h) ⟨rfl, rfl⟩ ⟨Nat.le_of_ble_eq_true rfl, Nat.le_of_ble_eq_true rfl⟩ ⟨Nat.le_of_ble_eq_true rfl, Nat.le_of_ble_eq_true rfl⟩ rfl rfl hl.1 (Nat.le_of_ble_eq_true rfl) dX6_refusal_60 (fun r_7 H1 L1 P hf => ?_)
            refine r_if_eq C dX6_refusal_63 hf (fun hf => ?_) (fun hf => ?_)
            · refine r_iconst C (v := 0) (by decide) dX6_refusal_71 ?_
              exact j72 ((0 : Int32)) _ _ _ P (lv_sub hl [] rfl) hf
            · refine r_bipush C (v := 6) (by decide) dX6_refusal_66 ?_
              refine r_goto C dX6_refusal_68 ?_
              exact j72 ((6 : Int32)) _ _ _ P (lv_sub hl [] rfl) hf
          · refine r_iconst C (v := 5) (by decide) dX6_refusal_54 ?_
            refine r_goto C dX6_refusal_55 ?_
            exact j72 ((5 : Int32)) _ _ _ P (lv_sub hl [] rfl) hf
        · exact j44  _ _ _ P (lv_sub hl [] rfl) hf
    · exact j22  _ _ _ P (lv_sub hl [] rfl) hf
theorem ctX6_refusal (l : Launch) (G : Gd) (o : OM) (v1 : Int32)  {r : Int32} (hf : F_X6_refusal o v1 = some r) : Ct l yX6_refusal cX6_refusal 2 (some .int) rmX6_refusal G [.ref (rA G 19 0), .int v1] o (some (.int r)) o := ct_of (by decide +kernel) (Nat.le_of_ble_eq_true rfl) (fun p e s m below meth c ls C P hl => wX6_refusal C  P hl hf)
theorem dX6_seals_0 : Dc cX6_seals 0 (.aload_n 0) 1 1 := ⟨by decide +kernel, rfl⟩
theorem dX6_seals_1 : Dc cX6_seals 1 (.getfield 7) 3 4 := ⟨by decide +kernel, rfl⟩
theorem dX6_seals_4 : Dc cX6_seals 4 (.sipush 234) 3 7 := ⟨by decide +kernel, rfl⟩
theorem dX6_seals_7 : Dc cX6_seals 7 (.dup2) 1 8 := ⟨by decide +kernel, rfl⟩
theorem dX6_seals_8 : Dc cX6_seals 8 (.iaload) 1 9 := ⟨by decide +kernel, rfl⟩
theorem dX6_seals_9 : Dc cX6_seals 9 (.iconst 1) 1 10 := ⟨by decide +kernel, rfl⟩
theorem dX6_seals_10 : Dc cX6_seals 10 (.iadd) 1 11 := ⟨by decide +kernel, rfl⟩
theorem dX6_seals_11 : Dc cX6_seals 11 (.iastore) 1 12 := ⟨by decide +kernel, rfl⟩
theorem dX6_seals_12 : Dc cX6_seals 12 (.aload_n 0) 1 13 := ⟨by decide +kernel, rfl⟩
theorem dX6_seals_13 : Dc cX6_seals 13 (.getfield 7) 3 16 := ⟨by decide +kernel, rfl⟩
theorem dX6_seals_16 : Dc cX6_seals 16 (.iload_n 1) 1 17 := ⟨by decide +kernel, rfl⟩
theorem dX6_seals_17 : Dc cX6_seals 17 (.iconst 5) 1 18 := ⟨by decide +kernel, rfl⟩
theorem dX6_seals_18 : Dc cX6_seals 18 (.invokestatic 30) 3 21 := ⟨by decide +kernel, rfl⟩
theorem dX6_seals_21 : Dc cX6_seals 21 (.aload_n 0) 1 22 := ⟨by decide +kernel, rfl⟩
theorem dX6_seals_22 : Dc cX6_seals 22 (.getfield 7) 3 25 := ⟨by decide +kernel, rfl⟩
theorem dX6_seals_25 : Dc cX6_seals 25 (.sipush 234) 3 28 := ⟨by decide +kernel, rfl⟩
theorem dX6_seals_28 : Dc cX6_seals 28 (.iaload) 1 29 := ⟨by decide +kernel, rfl⟩
theorem dX6_seals_29 : Dc cX6_seals 29 (.iastore) 1 30 := ⟨by decide +kernel, rfl⟩
theorem dX6_seals_30 : Dc cX6_seals 30 (.aload_n 0) 1 31 := ⟨by decide +kernel, rfl⟩
theorem dX6_seals_31 : Dc cX6_seals 31 (.getfield 7) 3 34 := ⟨by decide +kernel, rfl⟩
theorem dX6_seals_34 : Dc cX6_seals 34 (.iload_n 1) 1 35 := ⟨by decide +kernel, rfl⟩
theorem dX6_seals_35 : Dc cX6_seals 35 (.bipush 6) 2 37 := ⟨by decide +kernel, rfl⟩
theorem dX6_seals_37 : Dc cX6_seals 37 (.invokestatic 30) 3 40 := ⟨by decide +kernel, rfl⟩
theorem dX6_seals_40 : Dc cX6_seals 40 (.aload_n 0) 1 41 := ⟨by decide +kernel, rfl⟩
theorem dX6_seals_41 : Dc cX6_seals 41 (.iload_n 1) 1 42 := ⟨by decide +kernel, rfl⟩
theorem dX6_seals_42 : Dc cX6_seals 42 (.iconst 4) 1 43 := ⟨by decide +kernel, rfl⟩
theorem dX6_seals_43 : Dc cX6_seals 43 (.invokevirtual 37) 3 46 := ⟨by decide +kernel, rfl⟩
theorem dX6_seals_46 : Dc cX6_seals 46 (.iastore) 1 47 := ⟨by decide +kernel, rfl⟩
theorem dX6_seals_47 : Dc cX6_seals 47 (.aload_n 0) 1 48 := ⟨by decide +kernel, rfl⟩
theorem dX6_seals_48 : Dc cX6_seals 48 (.getfield 7) 3 51 := ⟨by decide +kernel, rfl⟩
theorem dX6_seals_51 : Dc cX6_seals 51 (.sipush 234) 3 54 := ⟨by decide +kernel, rfl⟩
theorem dX6_seals_54 : Dc cX6_seals 54 (.iaload) 1 55 := ⟨by decide +kernel, rfl⟩
theorem dX6_seals_55 : Dc cX6_seals 55 (.ireturn) 1 56 := ⟨by decide +kernel, rfl⟩
def F_X6_seals (o : OM) (v1 : Int32) : Option (Int32 × OM) := grd (inB ((234 : Int32)) 244) (grd (inB ((234 : Int32)) 244) (bd (wr o 20 0 ((234 : Int32)).toNatClampNeg ((rd o 20 0 ((234 : Int32)).toNatClampNeg) + ((1 : Int32)))) (fun o_1 : OM => bq (F_X6_of o_1 v1 ((5 : Int32))) (fun r_2 => grd (inB ((234 : Int32)) 244) (grd (inB r_2 244) (bd (wr o_1 20 0 r_2.toNatClampNeg (rd o_1 20 0 ((234 : Int32)).toNatClampNeg)) (fun o_3 : OM => bq (F_X6_of o_3 v1 ((6 : Int32))) (fun r_4 => bq (F_X6_get o_3 v1 ((4 : Int32))) (fun r_5 => grd (inB r_4 244) (bd (wr o_3 20 0 r_4.toNatClampNeg r_5) (fun o_6 : OM => grd (inB ((234 : Int32)) 244) (some ((rd o_6 20 0 ((234 : Int32)).toNatClampNeg), o_6)))))))))))))
abbrev rmX6_seals : Room := { frames := 2, cells := 0, slots := 0, locals := 43 }
set_option maxHeartbeats 4000000 in
set_option maxRecDepth 100000 in
theorem wX6_seals {G : Gd} {p : Program} {l : Launch} {e : Env} {s : State} {m : MethodId} {args : Array Value} {below : List Frame} {meth : Method} {c : Code} {o : OM} {H : Heap} {L0 : List Loc} {ls : Array Slot} {r : Int32} {o9 : OM} {v1 : Int32} (C : Cx G RX6 cX6_seals 2 (some .int) p s m args meth c)  (P : Hp G o s H L0) (hl : lv_has ls 2 [(0, .ref (rA G 19 0)), (1, .int v1)]) (hf : F_X6_seals o v1 = some (r, o9)) : W p l e rmX6_seals s m args below meth c H L0 0 0 (Qm G (some (.int r)) o9 rmX6_seals below args s) (F0 m 0 ls []) := by
  unfold F_X6_seals at hf
  refine r_aload_n C hl 0 rfl rfl dX6_seals_0 ?_
  refine gf_19_1 C P rfl wd_880 dX6_seals_1 ?_
  refine r_sipush C (v := 234) (by decide) dX6_seals_4 ?_
  refine r_dup2 C rfl rfl dX6_seals_7 ?_
  refine r_iald C P (k := 20) (i := 0) (n := 244) (fun _ _ => rfl) rfl dX6_seals_8 hf (fun hf => ?_)
  refine r_iconst C (v := 1) (by decide) dX6_seals_9 ?_
  refine r_iadd2 C dX6_seals_10 ?_
  refine r_iast C P (k := 20) (i := 0) (n := 244) (fun _ _ => rfl) rfl dX6_seals_11 hf (fun o_1 H1 L1 P hf => ?_)
  refine r_aload_n C hl 0 rfl rfl dX6_seals_12 ?_
  refine gf_19_1 C P rfl wd_880 dX6_seals_13 ?_
  refine r_iload_n C hl 1 rfl rfl dX6_seals_16 ?_
  refine r_iconst C (v := 5) (by decide) dX6_seals_17 ?_
  refine r_qSi C P cf_X6_30 (rm := rmX6_of) [.int v1, .int ((5 : Int32))] [.ref (rA G 20 0)] hf (fun _ h => ctX6_of l G o_1 v1 ((5 : Int32)) h) ⟨rfl, rfl⟩ ⟨Nat.le_of_ble_eq_true rfl, Nat.le_of_ble_eq_true rfl⟩ ⟨Nat.le_of_ble_eq_true rfl, Nat.le_of_ble_eq_true rfl⟩ rfl rfl hl.1 (Nat.le_of_ble_eq_true rfl) dX6_seals_18 (fun r_2 H1 L1 P hf => ?_)
  refine r_aload_n C hl 0 rfl rfl dX6_seals_21 ?_
  refine gf_19_1 C P rfl wd_880 dX6_seals_22 ?_
  refine r_sipush C (v := 234) (by decide) dX6_seals_25 ?_
  refine r_iald C P (k := 20) (i := 0) (n := 244) (fun _ _ => rfl) rfl dX6_seals_28 hf (fun hf => ?_)
  refine r_iast C P (k := 20) (i := 0) (n := 244) (fun _ _ => rfl) rfl dX6_seals_29 hf (fun o_3 H1 L1 P hf => ?_)
  refine r_aload_n C hl 0 rfl rfl dX6_seals_30 ?_
  refine gf_19_1 C P rfl wd_880 dX6_seals_31 ?_
  refine r_iload_n C hl 1 rfl rfl dX6_seals_34 ?_
  refine r_bipush C (v := 6) (by decide) dX6_seals_35 ?_
  refine r_qSi C P cf_X6_30 (rm := rmX6_of) [.int v1, .int ((6 : Int32))] [.ref (rA G 20 0)] hf (fun _ h => ctX6_of l G o_3 v1 ((6 : Int32)) h) ⟨rfl, rfl⟩ ⟨Nat.le_of_ble_eq_true rfl, Nat.le_of_ble_eq_true rfl⟩ ⟨Nat.le_of_ble_eq_true rfl, Nat.le_of_ble_eq_true rfl⟩ rfl rfl hl.1 (Nat.le_of_ble_eq_true rfl) dX6_seals_37 (fun r_4 H1 L1 P hf => ?_)
  refine r_aload_n C hl 0 rfl rfl dX6_seals_40 ?_
  refine r_iload_n C hl 1 rfl rfl dX6_seals_41 ?_
  refine r_iconst C (v := 4) (by decide) dX6_seals_42 ?_
  refine r_qVi C P cf_X6_37 (rm := rmX6_get) 19 0 (fun _ _ => ⟨_, rfl⟩) rfl rfl rfl [.int v1, .int ((4 : Int32))] [.int r_4, .ref (rA G 20 0)] hf (fun _ h => ctX6_get l G o_3 v1 ((4 : Int32)) h) ⟨rfl, rfl⟩ ⟨Nat.le_of_ble_eq_true rfl, Nat.le_of_ble_eq_true rfl⟩ ⟨Nat.le_of_ble_eq_true rfl, Nat.le_of_ble_eq_true rfl⟩ rfl rfl hl.1 (Nat.le_of_ble_eq_true rfl) dX6_seals_43 (fun r_5 H1 L1 P hf => ?_)
  refine r_iast C P (k := 20) (i := 0) (n := 244) (fun _ _ => rfl) rfl dX6_seals_46 hf (fun o_6 H1 L1 P hf => ?_)
  refine r_aload_n C hl 0 rfl rfl dX6_seals_47 ?_
  refine gf_19_1 C P rfl wd_880 dX6_seals_48 ?_
  refine r_sipush C (v := 234) (by decide) dX6_seals_51 ?_
  refine r_iald C P (k := 20) (i := 0) (n := 244) (fun _ _ => rfl) rfl dX6_seals_54 hf (fun hf => ?_)
  exact r_iret C P (rm := rmX6_seals) ⟨rfl, rfl⟩ dX6_seals_55 hf
theorem ctX6_seals (l : Launch) (G : Gd) (o : OM) (v1 : Int32)  {r : Int32} {o9 : OM} (hf : F_X6_seals o v1 = some (r, o9)) : Ct l yX6_seals cX6_seals 2 (some .int) rmX6_seals G [.ref (rA G 19 0), .int v1] o (some (.int r)) o9 := ct_of (by decide +kernel) (Nat.le_of_ble_eq_true rfl) (fun p e s m below meth c ls C P hl => wX6_seals C  P hl hf)
theorem dX6_makes_0 : Dc cX6_makes 0 (.aload_n 0) 1 1 := ⟨by decide +kernel, rfl⟩
theorem dX6_makes_1 : Dc cX6_makes 1 (.getfield 7) 3 4 := ⟨by decide +kernel, rfl⟩
theorem dX6_makes_4 : Dc cX6_makes 4 (.sipush 228) 3 7 := ⟨by decide +kernel, rfl⟩
theorem dX6_makes_7 : Dc cX6_makes 7 (.iaload) 1 8 := ⟨by decide +kernel, rfl⟩
theorem dX6_makes_8 : Dc cX6_makes 8 (.istore 4) 2 10 := ⟨by decide +kernel, rfl⟩
theorem dX6_makes_10 : Dc cX6_makes 10 (.iconst 0) 1 11 := ⟨by decide +kernel, rfl⟩
theorem dX6_makes_11 : Dc cX6_makes 11 (.istore 5) 2 13 := ⟨by decide +kernel, rfl⟩
theorem dX6_makes_13 : Dc cX6_makes 13 (.iload 5) 2 15 := ⟨by decide +kernel, rfl⟩
theorem dX6_makes_15 : Dc cX6_makes 15 (.bipush 38) 2 17 := ⟨by decide +kernel, rfl⟩
theorem dX6_makes_17 : Dj cX6_makes 17 (.if_icmp .ge 22) 3 20 (22) 39 := ⟨by decide +kernel, rfl, by decide⟩
theorem dX6_makes_20 : Dc cX6_makes 20 (.aload_n 0) 1 21 := ⟨by decide +kernel, rfl⟩
theorem dX6_makes_21 : Dc cX6_makes 21 (.getfield 7) 3 24 := ⟨by decide +kernel, rfl⟩
theorem dX6_makes_24 : Dc cX6_makes 24 (.iload 4) 2 26 := ⟨by decide +kernel, rfl⟩
theorem dX6_makes_26 : Dc cX6_makes 26 (.iload 5) 2 28 := ⟨by decide +kernel, rfl⟩
theorem dX6_makes_28 : Dc cX6_makes 28 (.invokestatic 30) 3 31 := ⟨by decide +kernel, rfl⟩
theorem dX6_makes_31 : Dc cX6_makes 31 (.iconst 0) 1 32 := ⟨by decide +kernel, rfl⟩
theorem dX6_makes_32 : Dc cX6_makes 32 (.iastore) 1 33 := ⟨by decide +kernel, rfl⟩
theorem dX6_makes_33 : Dc cX6_makes 33 (.iinc 5 1) 3 36 := ⟨by decide +kernel, rfl⟩
theorem dX6_makes_36 : Dj cX6_makes 36 (.goto (-23)) 3 39 (-23) 13 := ⟨by decide +kernel, rfl, by decide⟩
theorem dX6_makes_39 : Dc cX6_makes 39 (.aload_n 0) 1 40 := ⟨by decide +kernel, rfl⟩
theorem dX6_makes_40 : Dc cX6_makes 40 (.getfield 7) 3 43 := ⟨by decide +kernel, rfl⟩
theorem dX6_makes_43 : Dc cX6_makes 43 (.iload 4) 2 45 := ⟨by decide +kernel, rfl⟩
theorem dX6_makes_45 : Dc cX6_makes 45 (.iconst 0) 1 46 := ⟨by decide +kernel, rfl⟩
theorem dX6_makes_46 : Dc cX6_makes 46 (.invokestatic 30) 3 49 := ⟨by decide +kernel, rfl⟩
theorem dX6_makes_49 : Dc cX6_makes 49 (.iload_n 1) 1 50 := ⟨by decide +kernel, rfl⟩
theorem dX6_makes_50 : Dc cX6_makes 50 (.iastore) 1 51 := ⟨by decide +kernel, rfl⟩
theorem dX6_makes_51 : Dc cX6_makes 51 (.aload_n 0) 1 52 := ⟨by decide +kernel, rfl⟩
theorem dX6_makes_52 : Dc cX6_makes 52 (.getfield 7) 3 55 := ⟨by decide +kernel, rfl⟩
theorem dX6_makes_55 : Dc cX6_makes 55 (.iload 4) 2 57 := ⟨by decide +kernel, rfl⟩
theorem dX6_makes_57 : Dc cX6_makes 57 (.iconst 1) 1 58 := ⟨by decide +kernel, rfl⟩
theorem dX6_makes_58 : Dc cX6_makes 58 (.invokestatic 30) 3 61 := ⟨by decide +kernel, rfl⟩
theorem dX6_makes_61 : Dc cX6_makes 61 (.iload_n 2) 1 62 := ⟨by decide +kernel, rfl⟩
theorem dX6_makes_62 : Dc cX6_makes 62 (.iastore) 1 63 := ⟨by decide +kernel, rfl⟩
theorem dX6_makes_63 : Dc cX6_makes 63 (.aload_n 0) 1 64 := ⟨by decide +kernel, rfl⟩
theorem dX6_makes_64 : Dc cX6_makes 64 (.getfield 7) 3 67 := ⟨by decide +kernel, rfl⟩
theorem dX6_makes_67 : Dc cX6_makes 67 (.iload 4) 2 69 := ⟨by decide +kernel, rfl⟩
theorem dX6_makes_69 : Dc cX6_makes 69 (.iconst 2) 1 70 := ⟨by decide +kernel, rfl⟩
theorem dX6_makes_70 : Dc cX6_makes 70 (.invokestatic 30) 3 73 := ⟨by decide +kernel, rfl⟩
theorem dX6_makes_73 : Dc cX6_makes 73 (.iload_n 3) 1 74 := ⟨by decide +kernel, rfl⟩
theorem dX6_makes_74 : Dc cX6_makes 74 (.iastore) 1 75 := ⟨by decide +kernel, rfl⟩
theorem dX6_makes_75 : Dc cX6_makes 75 (.aload_n 0) 1 76 := ⟨by decide +kernel, rfl⟩
theorem dX6_makes_76 : Dc cX6_makes 76 (.getfield 7) 3 79 := ⟨by decide +kernel, rfl⟩
theorem dX6_makes_79 : Dc cX6_makes 79 (.iload 4) 2 81 := ⟨by decide +kernel, rfl⟩
theorem dX6_makes_81 : Dc cX6_makes 81 (.iconst 5) 1 82 := ⟨by decide +kernel, rfl⟩
theorem dX6_makes_82 : Dc cX6_makes 82 (.invokestatic 30) 3 85 := ⟨by decide +kernel, rfl⟩
theorem dX6_makes_85 : Dc cX6_makes 85 (.iconst (-1)) 1 86 := ⟨by decide +kernel, rfl⟩
theorem dX6_makes_86 : Dc cX6_makes 86 (.iastore) 1 87 := ⟨by decide +kernel, rfl⟩
theorem dX6_makes_87 : Dc cX6_makes 87 (.aload_n 0) 1 88 := ⟨by decide +kernel, rfl⟩
theorem dX6_makes_88 : Dc cX6_makes 88 (.getfield 7) 3 91 := ⟨by decide +kernel, rfl⟩
theorem dX6_makes_91 : Dc cX6_makes 91 (.sipush 228) 3 94 := ⟨by decide +kernel, rfl⟩
theorem dX6_makes_94 : Dc cX6_makes 94 (.dup2) 1 95 := ⟨by decide +kernel, rfl⟩
theorem dX6_makes_95 : Dc cX6_makes 95 (.iaload) 1 96 := ⟨by decide +kernel, rfl⟩
theorem dX6_makes_96 : Dc cX6_makes 96 (.iconst 1) 1 97 := ⟨by decide +kernel, rfl⟩
theorem dX6_makes_97 : Dc cX6_makes 97 (.iadd) 1 98 := ⟨by decide +kernel, rfl⟩
theorem dX6_makes_98 : Dc cX6_makes 98 (.iastore) 1 99 := ⟨by decide +kernel, rfl⟩
theorem dX6_makes_99 : Dc cX6_makes 99 (.iload 4) 2 101 := ⟨by decide +kernel, rfl⟩
theorem dX6_makes_101 : Dc cX6_makes 101 (.ireturn) 1 102 := ⟨by decide +kernel, rfl⟩
def LX6_makes_13 (k39 : OM → Option (Int32 × OM)) (v4_1 : Int32) : Nat → OM → Int32 → Option (Int32 × OM)
  | 0 => fun _ _ => none
  | n + 1 => fun o_13 v5_12 => if ((38 : Int32)) ≤ v5_12 then (k39 o_13) else (bq (F_X6_of o_13 v4_1 v5_12) (fun r_14 => grd (inB r_14 244) (bd (wr o_13 20 0 r_14.toNatClampNeg ((0 : Int32))) (fun o_15 : OM => bd (v5_12 + (1 : Int32)) (fun v5_16 : Int32 => (LX6_makes_13 k39 v4_1 n) o_15 v5_16)))))
def F_X6_makes (o : OM) (v1 : Int32) (v2 : Int32) (v3 : Int32) : Option (Int32 × OM) := grd (inB ((228 : Int32)) 244) (bd (rd o 20 0 ((228 : Int32)).toNatClampNeg) (fun v4_1 : Int32 => bd (fun (o_2 : OM) => bq (F_X6_of o_2 v4_1 ((0 : Int32))) (fun r_3 => grd (inB r_3 244) (bd (wr o_2 20 0 r_3.toNatClampNeg v1) (fun o_4 : OM => bq (F_X6_of o_4 v4_1 ((1 : Int32))) (fun r_5 => grd (inB r_5 244) (bd (wr o_4 20 0 r_5.toNatClampNeg v2) (fun o_6 : OM => bq (F_X6_of o_6 v4_1 ((2 : Int32))) (fun r_7 => grd (inB r_7 244) (bd (wr o_6 20 0 r_7.toNatClampNeg v3) (fun o_8 : OM => bq (F_X6_of o_8 v4_1 ((5 : Int32))) (fun r_9 => grd (inB r_9 244) (bd (wr o_8 20 0 r_9.toNatClampNeg ((-1 : Int32))) (fun o_10 : OM => grd (inB ((228 : Int32)) 244) (grd (inB ((228 : Int32)) 244) (bd (wr o_10 20 0 ((228 : Int32)).toNatClampNeg ((rd o_10 20 0 ((228 : Int32)).toNatClampNeg) + ((1 : Int32)))) (fun o_11 : OM => some (v4_1, o_11))))))))))))))))) (fun k39 => LX6_makes_13 k39 v4_1 FU o ((0 : Int32)))))
abbrev rmX6_makes : Room := { frames := 1, cells := 0, slots := 0, locals := 21 }
set_option maxHeartbeats 4000000 in
set_option maxRecDepth 100000 in
theorem lX6_makes_13 {G : Gd} {p : Program} {l : Launch} {e : Env} {s : State} {m : MethodId} {args : Array Value} {below : List Frame} {meth : Method} {c : Code} {r : Int32} {o9 : OM} {v4_1 : Int32} {v1 : Int32} {v2 : Int32} {v3 : Int32} (C : Cx G RX6 cX6_makes 6 (some .int) p s m args meth c)  {k39 : OM → Option (Int32 × OM)} (j39 : ∀ (o_2 : OM) H1 L1 ls, Hp G o_2 s H1 L1 → lv_has ls 6 [(0, .ref (rA G 19 0)), (1, .int v1), (2, .int v2), (3, .int v3), (4, .int v4_1)] → k39 o_2 = some (r, o9) → W p l e rmX6_makes s m args below meth c H1 L1 0 0 (Qm G (some (.int r)) o9 rmX6_makes below args s) (F0 m 39 ls [])) : ∀ (n : Nat) (o_13 : OM) (v5_12 : Int32) H1 L1 ls, Hp G o_13 s H1 L1 → lv_has ls 6 [(0, .ref (rA G 19 0)), (1, .int v1), (2, .int v2), (3, .int v3), (4, .int v4_1), (5, .int v5_12)] → LX6_makes_13 k39 v4_1 n o_13 v5_12 = some (r, o9) → W p l e rmX6_makes s m args below meth c H1 L1 0 0 (Qm G (some (.int r)) o9 rmX6_makes below args s) (F0 m 13 ls []) := by
  intro n
  induction n with
  | zero =>
    intro o_13 v5_12 H1 L1 ls P hl hf
    exact nomatch hf
  | succ n ih =>
    intro o_13 v5_12 H1 L1 ls P hl hf
    rw [LX6_makes_13.eq_2] at hf
    refine r_iload C hl 5 rfl dX6_makes_13 ?_
    refine r_bipush C (v := 38) (by decide) dX6_makes_15 ?_
    refine r_icmp_ge C dX6_makes_17 hf (fun hf => ?_) (fun hf => ?_)
    · exact j39 o_13 _ _ _ P (lv_sub hl [0, 1, 2, 3, 4] rfl) hf
    · refine r_aload_n C hl 0 rfl rfl dX6_makes_20 ?_
      refine gf_19_1 C P rfl wd_880 dX6_makes_21 ?_
      refine r_iload C hl 4 rfl dX6_makes_24 ?_
      refine r_iload C hl 5 rfl dX6_makes_26 ?_
      refine r_qSi C P cf_X6_30 (rm := rmX6_of) [.int v4_1, .int v5_12] [.ref (rA G 20 0)] hf (fun _ h => ctX6_of l G o_13 v4_1 v5_12 h) ⟨rfl, rfl⟩ ⟨Nat.le_of_ble_eq_true rfl, Nat.le_of_ble_eq_true rfl⟩ ⟨Nat.le_of_ble_eq_true rfl, Nat.le_of_ble_eq_true rfl⟩ rfl rfl hl.1 (Nat.le_of_ble_eq_true rfl) dX6_makes_28 (fun r_14 H1 L1 P hf => ?_)
      refine r_iconst C (v := 0) (by decide) dX6_makes_31 ?_
      refine r_iast C P (k := 20) (i := 0) (n := 244) (fun _ _ => rfl) rfl dX6_makes_32 hf (fun o_15 H1 L1 P hf => ?_)
      refine r_iinc C (fun v5_16 => [(5, .int v5_16), (0, .ref (rA G 19 0)), (1, .int v1), (2, .int v2), (3, .int v3), (4, .int v4_1)]) (w := 1) 5 hl rfl (by decide) (by decide) (fun _ => rfl) dX6_makes_33 hf (fun v5_16 ls hl hf => ?_)
      refine r_goto C dX6_makes_36 ?_
      exact ih o_15 v5_16 _ _ _ P (lv_sub hl [1, 2, 3, 4, 5, 0] rfl) hf
set_option maxHeartbeats 4000000 in
set_option maxRecDepth 100000 in
theorem wX6_makes {G : Gd} {p : Program} {l : Launch} {e : Env} {s : State} {m : MethodId} {args : Array Value} {below : List Frame} {meth : Method} {c : Code} {o : OM} {H : Heap} {L0 : List Loc} {ls : Array Slot} {r : Int32} {o9 : OM} {v1 : Int32} {v2 : Int32} {v3 : Int32} (C : Cx G RX6 cX6_makes 6 (some .int) p s m args meth c)  (P : Hp G o s H L0) (hl : lv_has ls 6 [(0, .ref (rA G 19 0)), (1, .int v1), (2, .int v2), (3, .int v3)]) (hf : F_X6_makes o v1 v2 v3 = some (r, o9)) : W p l e rmX6_makes s m args below meth c H L0 0 0 (Qm G (some (.int r)) o9 rmX6_makes below args s) (F0 m 0 ls []) := by
  unfold F_X6_makes at hf
  refine r_aload_n C hl 0 rfl rfl dX6_makes_0 ?_
  refine gf_19_1 C P rfl wd_880 dX6_makes_1 ?_
  refine r_sipush C (v := 228) (by decide) dX6_makes_4 ?_
  refine r_iald C P (k := 20) (i := 0) (n := 244) (fun _ _ => rfl) rfl dX6_makes_7 hf (fun hf => ?_)
  refine r_bdi hf (fun v4_1 hf => ?_)
  refine r_istore C [(4, .int v4_1), (0, .ref (rA G 19 0)), (1, .int v1), (2, .int v2), (3, .int v3)] hl (by decide) rfl dX6_makes_8 (fun ls hl => ?_)
  refine r_iconst C (v := 0) (by decide) dX6_makes_10 ?_
  refine r_istore C [(5, .int ((0 : Int32))), (4, .int v4_1), (0, .ref (rA G 19 0)), (1, .int v1), (2, .int v2), (3, .int v3)] hl (by decide) rfl dX6_makes_11 (fun ls hl => ?_)
  refine r_jn (fun k39 : OM → Option (Int32 × OM) => ∀ (o_2 : OM) H1 L1 ls, Hp G o_2 s H1 L1 → lv_has ls 6 [(0, .ref (rA G 19 0)), (1, .int v1), (2, .int v2), (3, .int v3), (4, .int v4_1)] → k39 o_2 = some (r, o9) → W p l e rmX6_makes s m args below meth c H1 L1 0 0 (Qm G (some (.int r)) o9 rmX6_makes below args s) (F0 m 39 ls [])) hf ?_ (fun k39 j39 hf => ?_)
  · intro o_2 H1 L1 ls  P hl hf
    refine r_aload_n C hl 0 rfl rfl dX6_makes_39 ?_
    refine gf_19_1 C P rfl wd_880 dX6_makes_40 ?_
    refine r_iload C hl 4 rfl dX6_makes_43 ?_
    refine r_iconst C (v := 0) (by decide) dX6_makes_45 ?_
    refine r_qSi C P cf_X6_30 (rm := rmX6_of) [.int v4_1, .int ((0 : Int32))] [.ref (rA G 20 0)] hf (fun _ h => ctX6_of l G o_2 v4_1 ((0 : Int32)) h) ⟨rfl, rfl⟩ ⟨Nat.le_of_ble_eq_true rfl, Nat.le_of_ble_eq_true rfl⟩ ⟨Nat.le_of_ble_eq_true rfl, Nat.le_of_ble_eq_true rfl⟩ rfl rfl hl.1 (Nat.le_of_ble_eq_true rfl) dX6_makes_46 (fun r_3 H1 L1 P hf => ?_)
    refine r_iload_n C hl 1 rfl rfl dX6_makes_49 ?_
    refine r_iast C P (k := 20) (i := 0) (n := 244) (fun _ _ => rfl) rfl dX6_makes_50 hf (fun o_4 H1 L1 P hf => ?_)
    refine r_aload_n C hl 0 rfl rfl dX6_makes_51 ?_
    refine gf_19_1 C P rfl wd_880 dX6_makes_52 ?_
    refine r_iload C hl 4 rfl dX6_makes_55 ?_
    refine r_iconst C (v := 1) (by decide) dX6_makes_57 ?_
    refine r_qSi C P cf_X6_30 (rm := rmX6_of) [.int v4_1, .int ((1 : Int32))] [.ref (rA G 20 0)] hf (fun _ h => ctX6_of l G o_4 v4_1 ((1 : Int32)) h) ⟨rfl, rfl⟩ ⟨Nat.le_of_ble_eq_true rfl, Nat.le_of_ble_eq_true rfl⟩ ⟨Nat.le_of_ble_eq_true rfl, Nat.le_of_ble_eq_true rfl⟩ rfl rfl hl.1 (Nat.le_of_ble_eq_true rfl) dX6_makes_58 (fun r_5 H1 L1 P hf => ?_)
    refine r_iload_n C hl 2 rfl rfl dX6_makes_61 ?_
    refine r_iast C P (k := 20) (i := 0) (n := 244) (fun _ _ => rfl) rfl dX6_makes_62 hf (fun o_6 H1 L1 P hf => ?_)
    refine r_aload_n C hl 0 rfl rfl dX6_makes_63 ?_
    refine gf_19_1 C P rfl wd_880 dX6_makes_64 ?_
    refine r_iload C hl 4 rfl dX6_makes_67 ?_
    refine r_iconst C (v := 2) (by decide) dX6_makes_69 ?_
    refine r_qSi C P cf_X6_30 (rm := rmX6_of) [.int v4_1, .int ((2 : Int32))] [.ref (rA G 20 0)] hf (fun _ h => ctX6_of l G o_6 v4_1 ((2 : Int32)) h) ⟨rfl, rfl⟩ ⟨Nat.le_of_ble_eq_true rfl, Nat.le_of_ble_eq_true rfl⟩ ⟨Nat.le_of_ble_eq_true rfl, Nat.le_of_ble_eq_true rfl⟩ rfl rfl hl.1 (Nat.le_of_ble_eq_true rfl) dX6_makes_70 (fun r_7 H1 L1 P hf => ?_)
    refine r_iload_n C hl 3 rfl rfl dX6_makes_73 ?_
    refine r_iast C P (k := 20) (i := 0) (n := 244) (fun _ _ => rfl) rfl dX6_makes_74 hf (fun o_8 H1 L1 P hf => ?_)
    refine r_aload_n C hl 0 rfl rfl dX6_makes_75 ?_
    refine gf_19_1 C P rfl wd_880 dX6_makes_76 ?_
    refine r_iload C hl 4 rfl dX6_makes_79 ?_
    refine r_iconst C (v := 5) (by decide) dX6_makes_81 ?_
    refine r_qSi C P cf_X6_30 (rm := rmX6_of) [.int v4_1, .int ((5 : Int32))] [.ref (rA G 20 0)] hf (fun _ h => ctX6_of l G o_8 v4_1 ((5 : Int32)) h) ⟨rfl, rfl⟩ ⟨Nat.le_of_ble_eq_true rfl, Nat.le_of_ble_eq_true rfl⟩ ⟨Nat.le_of_ble_eq_true rfl, Nat.le_of_ble_eq_true rfl⟩ rfl rfl hl.1 (Nat.le_of_ble_eq_true rfl) dX6_makes_82 (fun r_9 H1 L1 P hf => ?_)
    refine r_iconst C (v := -1) (by decide) dX6_makes_85 ?_
    refine r_iast C P (k := 20) (i := 0) (n := 244) (fun _ _ => rfl) rfl dX6_makes_86 hf (fun o_10 H1 L1 P hf => ?_)
    refine r_aload_n C hl 0 rfl rfl dX6_makes_87 ?_
    refine gf_19_1 C P rfl wd_880 dX6_makes_88 ?_
    refine r_sipush C (v := 228) (by decide) dX6_makes_91 ?_
    refine r_dup2 C rfl rfl dX6_makes_94 ?_
    refine r_iald C P (k := 20) (i := 0) (n := 244) (fun _ _ => rfl) rfl dX6_makes_95 hf (fun hf => ?_)
    refine r_iconst C (v := 1) (by decide) dX6_makes_96 ?_
    refine r_iadd2 C dX6_makes_97 ?_
    refine r_iast C P (k := 20) (i := 0) (n := 244) (fun _ _ => rfl) rfl dX6_makes_98 hf (fun o_11 H1 L1 P hf => ?_)
    refine r_iload C hl 4 rfl dX6_makes_99 ?_
    exact r_iret C P (rm := rmX6_makes) ⟨rfl, rfl⟩ dX6_makes_101 hf
  exact lX6_makes_13 C  j39 FU o ((0 : Int32)) _ _ _ P (lv_sub hl [2, 3, 4, 5, 1, 0] rfl) hf
theorem ctX6_makes (l : Launch) (G : Gd) (o : OM) (v1 : Int32) (v2 : Int32) (v3 : Int32)  {r : Int32} {o9 : OM} (hf : F_X6_makes o v1 v2 v3 = some (r, o9)) : Ct l yX6_makes cX6_makes 6 (some .int) rmX6_makes G [.ref (rA G 19 0), .int v1, .int v2, .int v3] o (some (.int r)) o9 := ct_of (by decide +kernel) (Nat.le_of_ble_eq_true rfl) (fun p e s m below meth c ls C P hl => wX6_makes C  P hl hf)
theorem dX6_passes_0 : Dc cX6_passes 0 (.iconst 0) 1 1 := ⟨by decide +kernel, rfl⟩
theorem dX6_passes_1 : Dc cX6_passes 1 (.istore_n 2) 1 2 := ⟨by decide +kernel, rfl⟩
theorem dX6_passes_2 : Dc cX6_passes 2 (.iload_n 2) 1 3 := ⟨by decide +kernel, rfl⟩
theorem dX6_passes_3 : Dc cX6_passes 3 (.iload_n 1) 1 4 := ⟨by decide +kernel, rfl⟩
theorem dX6_passes_4 : Dj cX6_passes 4 (.if_icmp .ge 92) 3 7 (92) 96 := ⟨by decide +kernel, rfl, by decide⟩
theorem dX6_passes_7 : Dc cX6_passes 7 (.iconst 0) 1 8 := ⟨by decide +kernel, rfl⟩
theorem dX6_passes_8 : Dc cX6_passes 8 (.istore_n 3) 1 9 := ⟨by decide +kernel, rfl⟩
theorem dX6_passes_9 : Dc cX6_passes 9 (.iload_n 3) 1 10 := ⟨by decide +kernel, rfl⟩
theorem dX6_passes_10 : Dc cX6_passes 10 (.aload_n 0) 1 11 := ⟨by decide +kernel, rfl⟩
theorem dX6_passes_11 : Dc cX6_passes 11 (.getfield 7) 3 14 := ⟨by decide +kernel, rfl⟩
theorem dX6_passes_14 : Dc cX6_passes 14 (.sipush 228) 3 17 := ⟨by decide +kernel, rfl⟩
theorem dX6_passes_17 : Dc cX6_passes 17 (.iaload) 1 18 := ⟨by decide +kernel, rfl⟩
theorem dX6_passes_18 : Dj cX6_passes 18 (.if_icmp .ge 60) 3 21 (60) 78 := ⟨by decide +kernel, rfl, by decide⟩
theorem dX6_passes_21 : Dc cX6_passes 21 (.aload_n 0) 1 22 := ⟨by decide +kernel, rfl⟩
theorem dX6_passes_22 : Dc cX6_passes 22 (.getfield 7) 3 25 := ⟨by decide +kernel, rfl⟩
theorem dX6_passes_25 : Dc cX6_passes 25 (.iload_n 3) 1 26 := ⟨by decide +kernel, rfl⟩
theorem dX6_passes_26 : Dc cX6_passes 26 (.iconst 4) 1 27 := ⟨by decide +kernel, rfl⟩
theorem dX6_passes_27 : Dc cX6_passes 27 (.invokestatic 30) 3 30 := ⟨by decide +kernel, rfl⟩
theorem dX6_passes_30 : Dc cX6_passes 30 (.dup2) 1 31 := ⟨by decide +kernel, rfl⟩
theorem dX6_passes_31 : Dc cX6_passes 31 (.iaload) 1 32 := ⟨by decide +kernel, rfl⟩
theorem dX6_passes_32 : Dc cX6_passes 32 (.aload_n 0) 1 33 := ⟨by decide +kernel, rfl⟩
theorem dX6_passes_33 : Dc cX6_passes 33 (.getfield 7) 3 36 := ⟨by decide +kernel, rfl⟩
theorem dX6_passes_36 : Dc cX6_passes 36 (.sipush 235) 3 39 := ⟨by decide +kernel, rfl⟩
theorem dX6_passes_39 : Dc cX6_passes 39 (.aload_n 0) 1 40 := ⟨by decide +kernel, rfl⟩
theorem dX6_passes_40 : Dc cX6_passes 40 (.iload_n 3) 1 41 := ⟨by decide +kernel, rfl⟩
theorem dX6_passes_41 : Dc cX6_passes 41 (.iconst 2) 1 42 := ⟨by decide +kernel, rfl⟩
theorem dX6_passes_42 : Dc cX6_passes 42 (.invokevirtual 37) 3 45 := ⟨by decide +kernel, rfl⟩
theorem dX6_passes_45 : Dc cX6_passes 45 (.iadd) 1 46 := ⟨by decide +kernel, rfl⟩
theorem dX6_passes_46 : Dc cX6_passes 46 (.iaload) 1 47 := ⟨by decide +kernel, rfl⟩
theorem dX6_passes_47 : Dc cX6_passes 47 (.aload_n 0) 1 48 := ⟨by decide +kernel, rfl⟩
theorem dX6_passes_48 : Dc cX6_passes 48 (.iload_n 3) 1 49 := ⟨by decide +kernel, rfl⟩
theorem dX6_passes_49 : Dc cX6_passes 49 (.iconst 3) 1 50 := ⟨by decide +kernel, rfl⟩
theorem dX6_passes_50 : Dc cX6_passes 50 (.invokevirtual 37) 3 53 := ⟨by decide +kernel, rfl⟩
theorem dX6_passes_53 : Dc cX6_passes 53 (.iconst 1) 1 54 := ⟨by decide +kernel, rfl⟩
theorem dX6_passes_54 : Dc cX6_passes 54 (.iadd) 1 55 := ⟨by decide +kernel, rfl⟩
theorem dX6_passes_55 : Dc cX6_passes 55 (.idiv) 1 56 := ⟨by decide +kernel, rfl⟩
theorem dX6_passes_56 : Dc cX6_passes 56 (.iadd) 1 57 := ⟨by decide +kernel, rfl⟩
theorem dX6_passes_57 : Dc cX6_passes 57 (.iastore) 1 58 := ⟨by decide +kernel, rfl⟩
theorem dX6_passes_58 : Dc cX6_passes 58 (.aload_n 0) 1 59 := ⟨by decide +kernel, rfl⟩
theorem dX6_passes_59 : Dc cX6_passes 59 (.getfield 7) 3 62 := ⟨by decide +kernel, rfl⟩
theorem dX6_passes_62 : Dc cX6_passes 62 (.iload_n 3) 1 63 := ⟨by decide +kernel, rfl⟩
theorem dX6_passes_63 : Dc cX6_passes 63 (.iconst 3) 1 64 := ⟨by decide +kernel, rfl⟩
theorem dX6_passes_64 : Dc cX6_passes 64 (.invokestatic 30) 3 67 := ⟨by decide +kernel, rfl⟩
theorem dX6_passes_67 : Dc cX6_passes 67 (.dup2) 1 68 := ⟨by decide +kernel, rfl⟩
theorem dX6_passes_68 : Dc cX6_passes 68 (.iaload) 1 69 := ⟨by decide +kernel, rfl⟩
theorem dX6_passes_69 : Dc cX6_passes 69 (.iconst 1) 1 70 := ⟨by decide +kernel, rfl⟩
theorem dX6_passes_70 : Dc cX6_passes 70 (.iadd) 1 71 := ⟨by decide +kernel, rfl⟩
theorem dX6_passes_71 : Dc cX6_passes 71 (.iastore) 1 72 := ⟨by decide +kernel, rfl⟩
theorem dX6_passes_72 : Dc cX6_passes 72 (.iinc 3 1) 3 75 := ⟨by decide +kernel, rfl⟩
theorem dX6_passes_75 : Dj cX6_passes 75 (.goto (-66)) 3 78 (-66) 9 := ⟨by decide +kernel, rfl, by decide⟩
theorem dX6_passes_78 : Dc cX6_passes 78 (.aload_n 0) 1 79 := ⟨by decide +kernel, rfl⟩
theorem dX6_passes_79 : Dc cX6_passes 79 (.getfield 7) 3 82 := ⟨by decide +kernel, rfl⟩
theorem dX6_passes_82 : Dc cX6_passes 82 (.sipush 233) 3 85 := ⟨by decide +kernel, rfl⟩
theorem dX6_passes_85 : Dc cX6_passes 85 (.dup2) 1 86 := ⟨by decide +kernel, rfl⟩
theorem dX6_passes_86 : Dc cX6_passes 86 (.iaload) 1 87 := ⟨by decide +kernel, rfl⟩
theorem dX6_passes_87 : Dc cX6_passes 87 (.iconst 1) 1 88 := ⟨by decide +kernel, rfl⟩
theorem dX6_passes_88 : Dc cX6_passes 88 (.iadd) 1 89 := ⟨by decide +kernel, rfl⟩
theorem dX6_passes_89 : Dc cX6_passes 89 (.iastore) 1 90 := ⟨by decide +kernel, rfl⟩
theorem dX6_passes_90 : Dc cX6_passes 90 (.iinc 2 1) 3 93 := ⟨by decide +kernel, rfl⟩
theorem dX6_passes_93 : Dj cX6_passes 93 (.goto (-91)) 3 96 (-91) 2 := ⟨by decide +kernel, rfl, by decide⟩
theorem dX6_passes_96 : Dc cX6_passes 96 (.aload_n 0) 1 97 := ⟨by decide +kernel, rfl⟩
theorem dX6_passes_97 : Dc cX6_passes 97 (.getfield 7) 3 100 := ⟨by decide +kernel, rfl⟩
theorem dX6_passes_100 : Dc cX6_passes 100 (.sipush 233) 3 103 := ⟨by decide +kernel, rfl⟩
theorem dX6_passes_103 : Dc cX6_passes 103 (.iaload) 1 104 := ⟨by decide +kernel, rfl⟩
theorem dX6_passes_104 : Dc cX6_passes 104 (.ireturn) 1 105 := ⟨by decide +kernel, rfl⟩
def LX6_passes_9 (k78 : OM → Option (Int32 × OM)) : Nat → OM → Int32 → Option (Int32 × OM)
  | 0 => fun _ _ => none
  | n + 1 => fun o_8 v3_7 => grd (inB ((228 : Int32)) 244) (if (rd o_8 20 0 ((228 : Int32)).toNatClampNeg) ≤ v3_7 then (k78 o_8) else (bq (F_X6_of o_8 v3_7 ((4 : Int32))) (fun r_9 => grd (inB r_9 244) (bq (F_X6_get o_8 v3_7 ((2 : Int32))) (fun r_10 => grd (inB (((235 : Int32)) + r_10) 244) (bq (F_X6_get o_8 v3_7 ((3 : Int32))) (fun r_11 => grd (decide (¬ (r_11 + ((1 : Int32))) = 0)) (grd (inB r_9 244) (bd (wr o_8 20 0 r_9.toNatClampNeg ((rd o_8 20 0 r_9.toNatClampNeg) + ((rd o_8 20 0 (((235 : Int32)) + r_10).toNatClampNeg) / (r_11 + ((1 : Int32)))))) (fun o_12 : OM => bq (F_X6_of o_12 v3_7 ((3 : Int32))) (fun r_13 => grd (inB r_13 244) (grd (inB r_13 244) (bd (wr o_12 20 0 r_13.toNatClampNeg ((rd o_12 20 0 r_13.toNatClampNeg) + ((1 : Int32)))) (fun o_14 : OM => bd (v3_7 + (1 : Int32)) (fun v3_15 : Int32 => (LX6_passes_9 k78 n) o_14 v3_15)))))))))))))))
def LX6_passes_2 (k96 : OM → Option (Int32 × OM)) (v1 : Int32) : Nat → OM → Int32 → Option (Int32 × OM)
  | 0 => fun _ _ => none
  | n + 1 => fun o_3 v2_2 => if v1 ≤ v2_2 then (k96 o_3) else (bd (fun (o_4 : OM) => grd (inB ((233 : Int32)) 244) (grd (inB ((233 : Int32)) 244) (bd (wr o_4 20 0 ((233 : Int32)).toNatClampNeg ((rd o_4 20 0 ((233 : Int32)).toNatClampNeg) + ((1 : Int32)))) (fun o_5 : OM => bd (v2_2 + (1 : Int32)) (fun v2_6 : Int32 => (LX6_passes_2 k96 v1 n) o_5 v2_6))))) (fun k78 => LX6_passes_9 k78 FU o_3 ((0 : Int32))))
def F_X6_passes (o : OM) (v1 : Int32) : Option (Int32 × OM) := bd (fun (o_1 : OM) => grd (inB ((233 : Int32)) 244) (some ((rd o_1 20 0 ((233 : Int32)).toNatClampNeg), o_1))) (fun k96 => LX6_passes_2 k96 v1 FU o ((0 : Int32)))
abbrev rmX6_passes : Room := { frames := 2, cells := 0, slots := 0, locals := 43 }
set_option maxHeartbeats 4000000 in
set_option maxRecDepth 100000 in
theorem lX6_passes_9 {G : Gd} {p : Program} {l : Launch} {e : Env} {s : State} {m : MethodId} {args : Array Value} {below : List Frame} {meth : Method} {c : Code} {r : Int32} {o9 : OM} {v1 : Int32} {v2_2 : Int32} (C : Cx G RX6 cX6_passes 4 (some .int) p s m args meth c)  {k78 : OM → Option (Int32 × OM)} (j78 : ∀ (o_4 : OM) H1 L1 ls, Hp G o_4 s H1 L1 → lv_has ls 4 [(0, .ref (rA G 19 0)), (1, .int v1), (2, .int v2_2)] → k78 o_4 = some (r, o9) → W p l e rmX6_passes s m args below meth c H1 L1 0 0 (Qm G (some (.int r)) o9 rmX6_passes below args s) (F0 m 78 ls [])) : ∀ (n : Nat) (o_8 : OM) (v3_7 : Int32) H1 L1 ls, Hp G o_8 s H1 L1 → lv_has ls 4 [(0, .ref (rA G 19 0)), (1, .int v1), (2, .int v2_2), (3, .int v3_7)] → LX6_passes_9 k78 n o_8 v3_7 = some (r, o9) → W p l e rmX6_passes s m args below meth c H1 L1 0 0 (Qm G (some (.int r)) o9 rmX6_passes below args s) (F0 m 9 ls []) := by
  intro n
  induction n with
  | zero =>
    intro o_8 v3_7 H1 L1 ls P hl hf
    exact nomatch hf
  | succ n ih =>
    intro o_8 v3_7 H1 L1 ls P hl hf
    rw [LX6_passes_9.eq_2] at hf
    refine r_iload_n C hl 3 rfl rfl dX6_passes_9 ?_
    refine r_aload_n C hl 0 rfl rfl dX6_passes_10 ?_
    refine gf_19_1 C P rfl wd_880 dX6_passes_11 ?_
    refine r_sipush C (v := 228) (by decide) dX6_passes_14 ?_
    refine r_iald C P (k := 20) (i := 0) (n := 244) (fun _ _ => rfl) rfl dX6_passes_17 hf (fun hf => ?_)
    refine r_icmp_ge C dX6_passes_18 hf (fun hf => ?_) (fun hf => ?_)
    · exact j78 o_8 _ _ _ P (lv_sub hl [0, 1, 2] rfl) hf
    · refine r_aload_n C hl 0 rfl rfl dX6_passes_21 ?_
      refine gf_19_1 C P rfl wd_880 dX6_passes_22 ?_
      refine r_iload_n C hl 3 rfl rfl dX6_passes_25 ?_
      refine r_iconst C (v := 4) (by decide) dX6_passes_26 ?_
      refine r_qSi C P cf_X6_30 (rm := rmX6_of) [.int v3_7, .int ((4 : Int32))] [.ref (rA G 20 0)] hf (fun _ h => ctX6_of l G o_8 v3_7 ((4 : Int32)) h) ⟨rfl, rfl⟩ ⟨Nat.le_of_ble_eq_true rfl, Nat.le_of_ble_eq_true rfl⟩ ⟨Nat.le_of_ble_eq_true rfl, Nat.le_of_ble_eq_true rfl⟩ rfl rfl hl.1 (Nat.le_of_ble_eq_true rfl) dX6_passes_27 (fun r_9 H1 L1 P hf => ?_)
      refine r_dup2 C rfl rfl dX6_passes_30 ?_
      refine r_iald C P (k := 20) (i := 0) (n := 244) (fun _ _ => rfl) rfl dX6_passes_31 hf (fun hf => ?_)
      refine r_aload_n C hl 0 rfl rfl dX6_passes_32 ?_
      refine gf_19_1 C P rfl wd_880 dX6_passes_33 ?_
      refine r_sipush C (v := 235) (by decide) dX6_passes_36 ?_
      refine r_aload_n C hl 0 rfl rfl dX6_passes_39 ?_
      refine r_iload_n C hl 3 rfl rfl dX6_passes_40 ?_
      refine r_iconst C (v := 2) (by decide) dX6_passes_41 ?_
      refine r_qVi C P cf_X6_37 (rm := rmX6_get) 19 0 (fun _ _ => ⟨_, rfl⟩) rfl rfl rfl [.int v3_7, .int ((2 : Int32))] [.int ((235 : Int32)), .ref (rA G 20 0), .int (rd o_8 20 0 r_9.toNatClampNeg), .int r_9, .ref (rA G 20 0)] hf (fun _ h => ctX6_get l G o_8 v3_7 ((2 : Int32)) h) ⟨rfl, rfl⟩ ⟨Nat.le_of_ble_eq_true rfl, Nat.le_of_ble_eq_true rfl⟩ ⟨Nat.le_of_ble_eq_true rfl, Nat.le_of_ble_eq_true rfl⟩ rfl rfl hl.1 (Nat.le_of_ble_eq_true rfl) dX6_passes_42 (fun r_10 H1 L1 P hf => ?_)
      refine r_iadd2 C dX6_passes_45 ?_
      refine r_iald C P (k := 20) (i := 0) (n := 244) (fun _ _ => rfl) rfl dX6_passes_46 hf (fun hf => ?_)
      refine r_aload_n C hl 0 rfl rfl dX6_passes_47 ?_
      refine r_iload_n C hl 3 rfl rfl dX6_passes_48 ?_
      refine r_iconst C (v := 3) (by decide) dX6_passes_49 ?_
      refine r_qVi C P cf_X6_37 (rm := rmX6_get) 19 0 (fun _ _ => ⟨_, rfl⟩) rfl rfl rfl [.int v3_7, .int ((3 : Int32))] [.int (rd o_8 20 0 (((235 : Int32)) + r_10).toNatClampNeg), .int (rd o_8 20 0 r_9.toNatClampNeg), .int r_9, .ref (rA G 20 0)] hf (fun _ h => ctX6_get l G o_8 v3_7 ((3 : Int32)) h) ⟨rfl, rfl⟩ ⟨Nat.le_of_ble_eq_true rfl, Nat.le_of_ble_eq_true rfl⟩ ⟨Nat.le_of_ble_eq_true rfl, Nat.le_of_ble_eq_true rfl⟩ rfl rfl hl.1 (Nat.le_of_ble_eq_true rfl) dX6_passes_50 (fun r_11 H1 L1 P hf => ?_)
      refine r_iconst C (v := 1) (by decide) dX6_passes_53 ?_
      refine r_iadd2 C dX6_passes_54 ?_
      refine r_idiv C dX6_passes_55 hf (fun hf => ?_)
      refine r_iadd2 C dX6_passes_56 ?_
      refine r_iast C P (k := 20) (i := 0) (n := 244) (fun _ _ => rfl) rfl dX6_passes_57 hf (fun o_12 H1 L1 P hf => ?_)
      refine r_aload_n C hl 0 rfl rfl dX6_passes_58 ?_
      refine gf_19_1 C P rfl wd_880 dX6_passes_59 ?_
      refine r_iload_n C hl 3 rfl rfl dX6_passes_62 ?_
      refine r_iconst C (v := 3) (by decide) dX6_passes_63 ?_
      refine r_qSi C P cf_X6_30 (rm := rmX6_of) [.int v3_7, .int ((3 : Int32))] [.ref (rA G 20 0)] hf (fun _ h => ctX6_of l G o_12 v3_7 ((3 : Int32)) h) ⟨rfl, rfl⟩ ⟨Nat.le_of_ble_eq_true rfl, Nat.le_of_ble_eq_true rfl⟩ ⟨Nat.le_of_ble_eq_true rfl, Nat.le_of_ble_eq_true rfl⟩ rfl rfl hl.1 (Nat.le_of_ble_eq_true rfl) dX6_passes_64 (fun r_13 H1 L1 P hf => ?_)
      refine r_dup2 C rfl rfl dX6_passes_67 ?_
      refine r_iald C P (k := 20) (i := 0) (n := 244) (fun _ _ => rfl) rfl dX6_passes_68 hf (fun hf => ?_)
      refine r_iconst C (v := 1) (by decide) dX6_passes_69 ?_
      refine r_iadd2 C dX6_passes_70 ?_
      refine r_iast C P (k := 20) (i := 0) (n := 244) (fun _ _ => rfl) rfl dX6_passes_71 hf (fun o_14 H1 L1 P hf => ?_)
      refine r_iinc C (fun v3_15 => [(3, .int v3_15), (0, .ref (rA G 19 0)), (1, .int v1), (2, .int v2_2)]) (w := 1) 3 hl rfl (by decide) (by decide) (fun _ => rfl) dX6_passes_72 hf (fun v3_15 ls hl hf => ?_)
      refine r_goto C dX6_passes_75 ?_
      exact ih o_14 v3_15 _ _ _ P (lv_sub hl [1, 2, 3, 0] rfl) hf
set_option maxHeartbeats 4000000 in
set_option maxRecDepth 100000 in
theorem lX6_passes_2 {G : Gd} {p : Program} {l : Launch} {e : Env} {s : State} {m : MethodId} {args : Array Value} {below : List Frame} {meth : Method} {c : Code} {r : Int32} {o9 : OM} {v1 : Int32} (C : Cx G RX6 cX6_passes 4 (some .int) p s m args meth c)  {k96 : OM → Option (Int32 × OM)} (j96 : ∀ (o_1 : OM) H1 L1 ls, Hp G o_1 s H1 L1 → lv_has ls 4 [(0, .ref (rA G 19 0))] → k96 o_1 = some (r, o9) → W p l e rmX6_passes s m args below meth c H1 L1 0 0 (Qm G (some (.int r)) o9 rmX6_passes below args s) (F0 m 96 ls [])) : ∀ (n : Nat) (o_3 : OM) (v2_2 : Int32) H1 L1 ls, Hp G o_3 s H1 L1 → lv_has ls 4 [(0, .ref (rA G 19 0)), (1, .int v1), (2, .int v2_2)] → LX6_passes_2 k96 v1 n o_3 v2_2 = some (r, o9) → W p l e rmX6_passes s m args below meth c H1 L1 0 0 (Qm G (some (.int r)) o9 rmX6_passes below args s) (F0 m 2 ls []) := by
  intro n
  induction n with
  | zero =>
    intro o_3 v2_2 H1 L1 ls P hl hf
    exact nomatch hf
  | succ n ih =>
    intro o_3 v2_2 H1 L1 ls P hl hf
    rw [LX6_passes_2.eq_2] at hf
    refine r_iload_n C hl 2 rfl rfl dX6_passes_2 ?_
    refine r_iload_n C hl 1 rfl rfl dX6_passes_3 ?_
    refine r_icmp_ge C dX6_passes_4 hf (fun hf => ?_) (fun hf => ?_)
    · exact j96 o_3 _ _ _ P (lv_sub hl [0] rfl) hf
    · refine r_iconst C (v := 0) (by decide) dX6_passes_7 ?_
      refine r_istore_n C [(3, .int ((0 : Int32))), (0, .ref (rA G 19 0)), (1, .int v1), (2, .int v2_2)] hl (by decide) rfl rfl dX6_passes_8 (fun ls hl => ?_)
      refine r_jn (fun k78 : OM → Option (Int32 × OM) => ∀ (o_4 : OM) H1 L1 ls, Hp G o_4 s H1 L1 → lv_has ls 4 [(0, .ref (rA G 19 0)), (1, .int v1), (2, .int v2_2)] → k78 o_4 = some (r, o9) → W p l e rmX6_passes s m args below meth c H1 L1 0 0 (Qm G (some (.int r)) o9 rmX6_passes below args s) (F0 m 78 ls [])) hf ?_ (fun k78 j78 hf => ?_)
      · intro o_4 H1 L1 ls  P hl hf
        refine r_aload_n C hl 0 rfl rfl dX6_passes_78 ?_
        refine gf_19_1 C P rfl wd_880 dX6_passes_79 ?_
        refine r_sipush C (v := 233) (by decide) dX6_passes_82 ?_
        refine r_dup2 C rfl rfl dX6_passes_85 ?_
        refine r_iald C P (k := 20) (i := 0) (n := 244) (fun _ _ => rfl) rfl dX6_passes_86 hf (fun hf => ?_)
        refine r_iconst C (v := 1) (by decide) dX6_passes_87 ?_
        refine r_iadd2 C dX6_passes_88 ?_
        refine r_iast C P (k := 20) (i := 0) (n := 244) (fun _ _ => rfl) rfl dX6_passes_89 hf (fun o_5 H1 L1 P hf => ?_)
        refine r_iinc C (fun v2_6 => [(2, .int v2_6), (0, .ref (rA G 19 0)), (1, .int v1)]) (w := 1) 2 hl rfl (by decide) (by decide) (fun _ => rfl) dX6_passes_90 hf (fun v2_6 ls hl hf => ?_)
        refine r_goto C dX6_passes_93 ?_
        exact ih o_5 v2_6 _ _ _ P (lv_sub hl [1, 2, 0] rfl) hf
      exact lX6_passes_9 C  j78 FU o_3 ((0 : Int32)) _ _ _ P (lv_sub hl [1, 2, 3, 0] rfl) hf
set_option maxHeartbeats 4000000 in
set_option maxRecDepth 100000 in
theorem wX6_passes {G : Gd} {p : Program} {l : Launch} {e : Env} {s : State} {m : MethodId} {args : Array Value} {below : List Frame} {meth : Method} {c : Code} {o : OM} {H : Heap} {L0 : List Loc} {ls : Array Slot} {r : Int32} {o9 : OM} {v1 : Int32} (C : Cx G RX6 cX6_passes 4 (some .int) p s m args meth c)  (P : Hp G o s H L0) (hl : lv_has ls 4 [(0, .ref (rA G 19 0)), (1, .int v1)]) (hf : F_X6_passes o v1 = some (r, o9)) : W p l e rmX6_passes s m args below meth c H L0 0 0 (Qm G (some (.int r)) o9 rmX6_passes below args s) (F0 m 0 ls []) := by
  unfold F_X6_passes at hf
  refine r_iconst C (v := 0) (by decide) dX6_passes_0 ?_
  refine r_istore_n C [(2, .int ((0 : Int32))), (0, .ref (rA G 19 0)), (1, .int v1)] hl (by decide) rfl rfl dX6_passes_1 (fun ls hl => ?_)
  refine r_jn (fun k96 : OM → Option (Int32 × OM) => ∀ (o_1 : OM) H1 L1 ls, Hp G o_1 s H1 L1 → lv_has ls 4 [(0, .ref (rA G 19 0))] → k96 o_1 = some (r, o9) → W p l e rmX6_passes s m args below meth c H1 L1 0 0 (Qm G (some (.int r)) o9 rmX6_passes below args s) (F0 m 96 ls [])) hf ?_ (fun k96 j96 hf => ?_)
  · intro o_1 H1 L1 ls  P hl hf
    refine r_aload_n C hl 0 rfl rfl dX6_passes_96 ?_
    refine gf_19_1 C P rfl wd_880 dX6_passes_97 ?_
    refine r_sipush C (v := 233) (by decide) dX6_passes_100 ?_
    refine r_iald C P (k := 20) (i := 0) (n := 244) (fun _ _ => rfl) rfl dX6_passes_103 hf (fun hf => ?_)
    exact r_iret C P (rm := rmX6_passes) ⟨rfl, rfl⟩ dX6_passes_104 hf
  exact lX6_passes_2 C  j96 FU o ((0 : Int32)) _ _ _ P (lv_sub hl [1, 2, 0] rfl) hf
theorem ctX6_passes (l : Launch) (G : Gd) (o : OM) (v1 : Int32)  {r : Int32} {o9 : OM} (hf : F_X6_passes o v1 = some (r, o9)) : Ct l yX6_passes cX6_passes 4 (some .int) rmX6_passes G [.ref (rA G 19 0), .int v1] o (some (.int r)) o9 := ct_of (by decide +kernel) (Nat.le_of_ble_eq_true rfl) (fun p e s m below meth c ls C P hl => wX6_passes C  P hl hf)
theorem dX6_fills_0 : Dc cX6_fills 0 (.aload_n 0) 1 1 := ⟨by decide +kernel, rfl⟩
theorem dX6_fills_1 : Dc cX6_fills 1 (.getfield 7) 3 4 := ⟨by decide +kernel, rfl⟩
theorem dX6_fills_4 : Dc cX6_fills 4 (.sipush 229) 3 7 := ⟨by decide +kernel, rfl⟩
theorem dX6_fills_7 : Dc cX6_fills 7 (.iload_n 1) 1 8 := ⟨by decide +kernel, rfl⟩
theorem dX6_fills_8 : Dc cX6_fills 8 (.iadd) 1 9 := ⟨by decide +kernel, rfl⟩
theorem dX6_fills_9 : Dc cX6_fills 9 (.iaload) 1 10 := ⟨by decide +kernel, rfl⟩
theorem dX6_fills_10 : Dc cX6_fills 10 (.istore_n 3) 1 11 := ⟨by decide +kernel, rfl⟩
theorem dX6_fills_11 : Dc cX6_fills 11 (.aload_n 0) 1 12 := ⟨by decide +kernel, rfl⟩
theorem dX6_fills_12 : Dc cX6_fills 12 (.getfield 7) 3 15 := ⟨by decide +kernel, rfl⟩
theorem dX6_fills_15 : Dc cX6_fills 15 (.sipush 229) 3 18 := ⟨by decide +kernel, rfl⟩
theorem dX6_fills_18 : Dc cX6_fills 18 (.iload_n 1) 1 19 := ⟨by decide +kernel, rfl⟩
theorem dX6_fills_19 : Dc cX6_fills 19 (.iadd) 1 20 := ⟨by decide +kernel, rfl⟩
theorem dX6_fills_20 : Dc cX6_fills 20 (.iload_n 2) 1 21 := ⟨by decide +kernel, rfl⟩
theorem dX6_fills_21 : Dc cX6_fills 21 (.iastore) 1 22 := ⟨by decide +kernel, rfl⟩
theorem dX6_fills_22 : Dc cX6_fills 22 (.iload_n 3) 1 23 := ⟨by decide +kernel, rfl⟩
theorem dX6_fills_23 : Dc cX6_fills 23 (.sipush 10000) 3 26 := ⟨by decide +kernel, rfl⟩
theorem dX6_fills_26 : Dc cX6_fills 26 (.iadd) 1 27 := ⟨by decide +kernel, rfl⟩
theorem dX6_fills_27 : Dc cX6_fills 27 (.ireturn) 1 28 := ⟨by decide +kernel, rfl⟩
def F_X6_fills (o : OM) (v1 : Int32) (v2 : Int32) : Option (Int32 × OM) := grd (inB (((229 : Int32)) + v1) 244) (bd (rd o 20 0 (((229 : Int32)) + v1).toNatClampNeg) (fun v3_1 : Int32 => grd (inB (((229 : Int32)) + v1) 244) (bd (wr o 20 0 (((229 : Int32)) + v1).toNatClampNeg v2) (fun o_2 : OM => some ((v3_1 + ((10000 : Int32))), o_2)))))
abbrev rmX6_fills : Room := { frames := 0, cells := 0, slots := 0, locals := 0 }
set_option maxHeartbeats 4000000 in
set_option maxRecDepth 100000 in
theorem wX6_fills {G : Gd} {p : Program} {l : Launch} {e : Env} {s : State} {m : MethodId} {args : Array Value} {below : List Frame} {meth : Method} {c : Code} {o : OM} {H : Heap} {L0 : List Loc} {ls : Array Slot} {r : Int32} {o9 : OM} {v1 : Int32} {v2 : Int32} (C : Cx G RX6 cX6_fills 4 (some .int) p s m args meth c)  (P : Hp G o s H L0) (hl : lv_has ls 4 [(0, .ref (rA G 19 0)), (1, .int v1), (2, .int v2)]) (hf : F_X6_fills o v1 v2 = some (r, o9)) : W p l e rmX6_fills s m args below meth c H L0 0 0 (Qm G (some (.int r)) o9 rmX6_fills below args s) (F0 m 0 ls []) := by
  unfold F_X6_fills at hf
  refine r_aload_n C hl 0 rfl rfl dX6_fills_0 ?_
  refine gf_19_1 C P rfl wd_880 dX6_fills_1 ?_
  refine r_sipush C (v := 229) (by decide) dX6_fills_4 ?_
  refine r_iload_n C hl 1 rfl rfl dX6_fills_7 ?_
  refine r_iadd2 C dX6_fills_8 ?_
  refine r_iald C P (k := 20) (i := 0) (n := 244) (fun _ _ => rfl) rfl dX6_fills_9 hf (fun hf => ?_)
  refine r_bdi hf (fun v3_1 hf => ?_)
  refine r_istore_n C [(3, .int v3_1), (0, .ref (rA G 19 0)), (1, .int v1), (2, .int v2)] hl (by decide) rfl rfl dX6_fills_10 (fun ls hl => ?_)
  refine r_aload_n C hl 1 rfl rfl dX6_fills_11 ?_
  refine gf_19_1 C P rfl wd_880 dX6_fills_12 ?_
  refine r_sipush C (v := 229) (by decide) dX6_fills_15 ?_
  refine r_iload_n C hl 2 rfl rfl dX6_fills_18 ?_
  refine r_iadd2 C dX6_fills_19 ?_
  refine r_iload_n C hl 3 rfl rfl dX6_fills_20 ?_
  refine r_iast C P (k := 20) (i := 0) (n := 244) (fun _ _ => rfl) rfl dX6_fills_21 hf (fun o_2 H1 L1 P hf => ?_)
  refine r_iload_n C hl 0 rfl rfl dX6_fills_22 ?_
  refine r_sipush C (v := 10000) (by decide) dX6_fills_23 ?_
  refine r_iadd2 C dX6_fills_26 ?_
  exact r_iret C P (rm := rmX6_fills) ⟨rfl, rfl⟩ dX6_fills_27 hf
theorem ctX6_fills (l : Launch) (G : Gd) (o : OM) (v1 : Int32) (v2 : Int32)  {r : Int32} {o9 : OM} (hf : F_X6_fills o v1 v2 = some (r, o9)) : Ct l yX6_fills cX6_fills 4 (some .int) rmX6_fills G [.ref (rA G 19 0), .int v1, .int v2] o (some (.int r)) o9 := ct_of (by decide +kernel) (Nat.le_of_ble_eq_true rfl) (fun p e s m below meth c ls C P hl => wX6_fills C  P hl hf)
theorem cf_X6_87 : CallF false RX6 87 yX6_holds cX6_holds 2 (some .boolean) 1 := ⟨wd_936, (by rw [if_neg (by decide)]; exact ⟨wd_938, wd_20⟩), wd_71, wd_939, by decide, by decide +kernel⟩
theorem cf_X6_90 : CallF false RX6 90 yX6_save cX6_save 2 none 0 := ⟨wd_940, (by rw [if_neg (by decide)]; exact ⟨wd_942, wd_21⟩), wd_71, wd_943, by decide, by decide +kernel⟩
theorem cf_X6_93 : CallF false RX6 93 yX6_makes cX6_makes 6 (some .int) 3 := ⟨wd_944, (by rw [if_neg (by decide)]; exact ⟨wd_946, wd_22⟩), wd_71, wd_947, by decide, by decide +kernel⟩
theorem dX6_make_0 : Dc cX6_make 0 (.iload_n 1) 1 1 := ⟨by decide +kernel, rfl⟩
theorem dX6_make_1 : Dc cX6_make 1 (.bipush (-50)) 2 3 := ⟨by decide +kernel, rfl⟩
theorem dX6_make_3 : Dc cX6_make 3 (.bipush 50) 2 5 := ⟨by decide +kernel, rfl⟩
theorem dX6_make_5 : Dc cX6_make 5 (.invokestatic 26) 3 8 := ⟨by decide +kernel, rfl⟩
theorem dX6_make_8 : Dj cX6_make 8 (.ifCond .eq 27) 3 11 (27) 35 := ⟨by decide +kernel, rfl, by decide⟩
theorem dX6_make_11 : Dc cX6_make 11 (.iload_n 2) 1 12 := ⟨by decide +kernel, rfl⟩
theorem dX6_make_12 : Dc cX6_make 12 (.bipush (-50)) 2 14 := ⟨by decide +kernel, rfl⟩
theorem dX6_make_14 : Dc cX6_make 14 (.bipush 50) 2 16 := ⟨by decide +kernel, rfl⟩
theorem dX6_make_16 : Dc cX6_make 16 (.invokestatic 26) 3 19 := ⟨by decide +kernel, rfl⟩
theorem dX6_make_19 : Dj cX6_make 19 (.ifCond .eq 16) 3 22 (16) 35 := ⟨by decide +kernel, rfl, by decide⟩
theorem dX6_make_22 : Dc cX6_make 22 (.iload_n 3) 1 23 := ⟨by decide +kernel, rfl⟩
theorem dX6_make_23 : Dc cX6_make 23 (.iconst 0) 1 24 := ⟨by decide +kernel, rfl⟩
theorem dX6_make_24 : Dc cX6_make 24 (.iconst 3) 1 25 := ⟨by decide +kernel, rfl⟩
theorem dX6_make_25 : Dc cX6_make 25 (.invokestatic 26) 3 28 := ⟨by decide +kernel, rfl⟩
theorem dX6_make_28 : Dj cX6_make 28 (.ifCond .eq 7) 3 31 (7) 35 := ⟨by decide +kernel, rfl, by decide⟩
theorem dX6_make_31 : Dc cX6_make 31 (.iconst 1) 1 32 := ⟨by decide +kernel, rfl⟩
theorem dX6_make_32 : Dj cX6_make 32 (.goto 4) 3 35 (4) 36 := ⟨by decide +kernel, rfl, by decide⟩
theorem dX6_make_35 : Dc cX6_make 35 (.iconst 0) 1 36 := ⟨by decide +kernel, rfl⟩
theorem dX6_make_36 : Dc cX6_make 36 (.istore 4) 2 38 := ⟨by decide +kernel, rfl⟩
theorem dX6_make_38 : Dc cX6_make 38 (.aload_n 0) 1 39 := ⟨by decide +kernel, rfl⟩
theorem dX6_make_39 : Dc cX6_make 39 (.iload 4) 2 41 := ⟨by decide +kernel, rfl⟩
theorem dX6_make_41 : Dj cX6_make 41 (.ifCond .ne 7) 3 44 (7) 48 := ⟨by decide +kernel, rfl, by decide⟩
theorem dX6_make_44 : Dc cX6_make 44 (.iconst 1) 1 45 := ⟨by decide +kernel, rfl⟩
theorem dX6_make_45 : Dj cX6_make 45 (.goto 21) 3 48 (21) 66 := ⟨by decide +kernel, rfl, by decide⟩
theorem dX6_make_48 : Dc cX6_make 48 (.aload_n 0) 1 49 := ⟨by decide +kernel, rfl⟩
theorem dX6_make_49 : Dc cX6_make 49 (.getfield 7) 3 52 := ⟨by decide +kernel, rfl⟩
theorem dX6_make_52 : Dc cX6_make 52 (.sipush 228) 3 55 := ⟨by decide +kernel, rfl⟩
theorem dX6_make_55 : Dc cX6_make 55 (.iaload) 1 56 := ⟨by decide +kernel, rfl⟩
theorem dX6_make_56 : Dc cX6_make 56 (.bipush 6) 2 58 := ⟨by decide +kernel, rfl⟩
theorem dX6_make_58 : Dj cX6_make 58 (.if_icmp .ne 7) 3 61 (7) 65 := ⟨by decide +kernel, rfl, by decide⟩
theorem dX6_make_61 : Dc cX6_make 61 (.iconst 2) 1 62 := ⟨by decide +kernel, rfl⟩
theorem dX6_make_62 : Dj cX6_make 62 (.goto 4) 3 65 (4) 66 := ⟨by decide +kernel, rfl, by decide⟩
theorem dX6_make_65 : Dc cX6_make 65 (.iconst 0) 1 66 := ⟨by decide +kernel, rfl⟩
theorem dX6_make_66 : Dc cX6_make 66 (.invokevirtual 87) 3 69 := ⟨by decide +kernel, rfl⟩
theorem dX6_make_69 : Dj cX6_make 69 (.ifCond .ne 5) 3 72 (5) 74 := ⟨by decide +kernel, rfl, by decide⟩
theorem dX6_make_72 : Dc cX6_make 72 (.iconst 0) 1 73 := ⟨by decide +kernel, rfl⟩
theorem dX6_make_73 : Dc cX6_make 73 (.ireturn) 1 74 := ⟨by decide +kernel, rfl⟩
theorem dX6_make_74 : Dc cX6_make 74 (.aload_n 0) 1 75 := ⟨by decide +kernel, rfl⟩
theorem dX6_make_75 : Dc cX6_make 75 (.invokevirtual 90) 3 78 := ⟨by decide +kernel, rfl⟩
theorem dX6_make_78 : Dc cX6_make 78 (.aload_n 0) 1 79 := ⟨by decide +kernel, rfl⟩
theorem dX6_make_79 : Dc cX6_make 79 (.iload_n 1) 1 80 := ⟨by decide +kernel, rfl⟩
theorem dX6_make_80 : Dc cX6_make 80 (.iload_n 2) 1 81 := ⟨by decide +kernel, rfl⟩
theorem dX6_make_81 : Dc cX6_make 81 (.iload_n 3) 1 82 := ⟨by decide +kernel, rfl⟩
theorem dX6_make_82 : Dc cX6_make 82 (.invokevirtual 93) 3 85 := ⟨by decide +kernel, rfl⟩
theorem dX6_make_85 : Dc cX6_make 85 (.ireturn) 1 86 := ⟨by decide +kernel, rfl⟩
def F_X6_make (o : OM) (v1 : Int32) (v2 : Int32) (v3 : Int32) : Option (Int32 × OM) := bq (F_X6_in o v1 ((-50 : Int32)) ((50 : Int32))) (fun r_1 => bd (fun (s_2 : Int32) => bd (fun (s_3 : Int32) => bn (F_X6_holds o s_3) (fun r_4 o_5 => if r_4 = 0 then (some (((0 : Int32)), o_5)) else (bn (F_X6_save o_5) (fun _ o_7 => bn (F_X6_makes o_7 v1 v2 v3) (fun r_8 o_9 => some (r_8, o_9)))))) (fun k66 => if s_2 = 0 then (k66 ((1 : Int32))) else (grd (inB ((228 : Int32)) 244) (if (rd o 20 0 ((228 : Int32)).toNatClampNeg) = ((6 : Int32)) then (k66 ((2 : Int32))) else (k66 ((0 : Int32))))))) (fun k36 => bd (fun (_ : Unit) => k36 ((0 : Int32))) (fun k35 => if r_1 = 0 then (k35 ()) else (bq (F_X6_in o v2 ((-50 : Int32)) ((50 : Int32))) (fun r_10 => if r_10 = 0 then (k35 ()) else (bq (F_X6_in o v3 ((0 : Int32)) ((3 : Int32))) (fun r_11 => if r_11 = 0 then (k35 ()) else (k36 ((1 : Int32))))))))))
abbrev rmX6_make : Room := { frames := 2, cells := 0, slots := 0, locals := 46 }
set_option maxHeartbeats 4000000 in
set_option maxRecDepth 100000 in
theorem wX6_make {G : Gd} {p : Program} {l : Launch} {e : Env} {s : State} {m : MethodId} {args : Array Value} {below : List Frame} {meth : Method} {c : Code} {o : OM} {H : Heap} {L0 : List Loc} {ls : Array Slot} {r : Int32} {o9 : OM} {v1 : Int32} {v2 : Int32} {v3 : Int32} (C : Cx G RX6 cX6_make 5 (some .int) p s m args meth c)  (P : Hp G o s H L0) (hl : lv_has ls 5 [(0, .ref (rA G 19 0)), (1, .int v1), (2, .int v2), (3, .int v3)]) (hf : F_X6_make o v1 v2 v3 = some (r, o9)) : W p l e rmX6_make s m args below meth c H L0 0 0 (Qm G (some (.int r)) o9 rmX6_make below args s) (F0 m 0 ls []) := by
  unfold F_X6_make at hf
  refine r_iload_n C hl 1 rfl rfl dX6_make_0 ?_
  refine r_bipush C (v := -50) (by decide) dX6_make_1 ?_
  refine r_bipush C (v := 50) (by decide) dX6_make_3 ?_
  refine r_qSi C P cf_X6_26 (rm := rmX6_in) [.int v1, .int ((-50 : Int32)), .int ((50 : Int32))] [] hf (fun _ h => ctX6_in l G o v1 ((-50 : Int32)) ((50 : Int32)) h) ⟨rfl, rfl⟩ ⟨Nat.le_of_ble_eq_true rfl, Nat.le_of_ble_eq_true rfl⟩ ⟨Nat.le_of_ble_eq_true rfl, Nat.le_of_ble_eq_true rfl⟩ rfl rfl hl.1 (Nat.le_of_ble_eq_true rfl) dX6_make_5 (fun r_1 H1 L1 P hf => ?_)
  refine r_jn (fun k36 : Int32 → Option (Int32 × OM) => ∀ (s_2 : Int32) H1 L1 ls, Hp G o s H1 L1 → lv_has ls 5 [(0, .ref (rA G 19 0)), (1, .int v1), (2, .int v2), (3, .int v3)] → k36 s_2 = some (r, o9) → W p l e rmX6_make s m args below meth c H1 L1 0 0 (Qm G (some (.int r)) o9 rmX6_make below args s) (F0 m 36 ls [.int s_2])) hf ?_ (fun k36 j36 hf => ?_)
  · intro s_2 H1 L1 ls  P hl hf
    refine r_istore C [(4, .int s_2), (0, .ref (rA G 19 0)), (1, .int v1), (2, .int v2), (3, .int v3)] hl (by decide) rfl dX6_make_36 (fun ls hl => ?_)
    refine r_aload_n C hl 1 rfl rfl dX6_make_38 ?_
    refine r_iload C hl 0 rfl dX6_make_39 ?_
    refine r_jn (fun k66 : Int32 → Option (Int32 × OM) => ∀ (s_3 : Int32) H1 L1 ls, Hp G o s H1 L1 → lv_has ls 5 [(0, .ref (rA G 19 0)), (1, .int v1), (2, .int v2), (3, .int v3)] → k66 s_3 = some (r, o9) → W p l e rmX6_make s m args below meth c H1 L1 0 0 (Qm G (some (.int r)) o9 rmX6_make below args s) (F0 m 66 ls [.int s_3, .ref (rA G 19 0)])) hf ?_ (fun k66 j66 hf => ?_)
    · intro s_3 H1 L1 ls  P hl hf
      refine r_cVi C P cf_X6_87 (rm := rmX6_holds) 19 0 (fun _ _ => ⟨_, rfl⟩) rfl rfl rfl [.int s_3] [] hf (fun _ _ h => ctX6_holds l G o s_3 h) ⟨rfl, rfl⟩ ⟨Nat.le_of_ble_eq_true rfl, Nat.le_of_ble_eq_true rfl⟩ ⟨Nat.le_of_ble_eq_true rfl, Nat.le_of_ble_eq_true rfl⟩ rfl rfl hl.1 (Nat.le_of_ble_eq_true rfl) dX6_make_66 (fun r_4 o_5 H1 L1 P hf => ?_)
      refine r_if_ne C dX6_make_69 hf (fun hf => ?_) (fun hf => ?_)
      · refine r_aload_n C hl 0 rfl rfl dX6_make_74 ?_
        refine r_cVv C P cf_X6_90 (rm := rmX6_save) 19 0 (fun _ _ => ⟨_, rfl⟩) rfl rfl rfl [] [] hf (fun _ _ h => ctX6_save l G o_5 h) ⟨rfl, rfl⟩ ⟨Nat.le_of_ble_eq_true rfl, Nat.le_of_ble_eq_true rfl⟩ ⟨Nat.le_of_ble_eq_true rfl, Nat.le_of_ble_eq_true rfl⟩ rfl rfl hl.1 (Nat.le_of_ble_eq_true rfl) dX6_make_75 (fun _ o_7 H1 L1 P hf => ?_)
        refine r_aload_n C hl 0 rfl rfl dX6_make_78 ?_
        refine r_iload_n C hl 1 rfl rfl dX6_make_79 ?_
        refine r_iload_n C hl 2 rfl rfl dX6_make_80 ?_
        refine r_iload_n C hl 3 rfl rfl dX6_make_81 ?_
        refine r_cVi C P cf_X6_93 (rm := rmX6_makes) 19 0 (fun _ _ => ⟨_, rfl⟩) rfl rfl rfl [.int v1, .int v2, .int v3] [] hf (fun _ _ h => ctX6_makes l G o_7 v1 v2 v3 h) ⟨rfl, rfl⟩ ⟨Nat.le_of_ble_eq_true rfl, Nat.le_of_ble_eq_true rfl⟩ ⟨Nat.le_of_ble_eq_true rfl, Nat.le_of_ble_eq_true rfl⟩ rfl rfl hl.1 (Nat.le_of_ble_eq_true rfl) dX6_make_82 (fun r_8 o_9 H1 L1 P hf => ?_)
        exact r_iret C P (rm := rmX6_make) ⟨rfl, rfl⟩ dX6_make_85 hf
      · refine r_iconst C (v := 0) (by decide) dX6_make_72 ?_
        exact r_iret C P (rm := rmX6_make) ⟨rfl, rfl⟩ dX6_make_73 hf
    refine r_if_ne C dX6_make_41 hf (fun hf => ?_) (fun hf => ?_)
    · refine r_aload_n C hl 1 rfl rfl dX6_make_48 ?_
      refine gf_19_1 C P rfl wd_880 dX6_make_49 ?_
      refine r_sipush C (v := 228) (by decide) dX6_make_52 ?_
      refine r_iald C P (k := 20) (i := 0) (n := 244) (fun _ _ => rfl) rfl dX6_make_55 hf (fun hf => ?_)
      refine r_bipush C (v := 6) (by decide) dX6_make_56 ?_
      refine r_icmp_ne C dX6_make_58 hf (fun hf => ?_) (fun hf => ?_)
      · refine r_iconst C (v := 0) (by decide) dX6_make_65 ?_
        exact j66 ((0 : Int32)) _ _ _ P (lv_sub hl [1, 2, 3, 4] rfl) hf
      · refine r_iconst C (v := 2) (by decide) dX6_make_61 ?_
        refine r_goto C dX6_make_62 ?_
        exact j66 ((2 : Int32)) _ _ _ P (lv_sub hl [1, 2, 3, 4] rfl) hf
    · refine r_iconst C (v := 1) (by decide) dX6_make_44 ?_
      refine r_goto C dX6_make_45 ?_
      exact j66 ((1 : Int32)) _ _ _ P (lv_sub hl [1, 2, 3, 4] rfl) hf
  refine r_jn (fun k35 : Unit → Option (Int32 × OM) => ∀ H1 L1 ls, Hp G o s H1 L1 → lv_has ls 5 [(0, .ref (rA G 19 0)), (1, .int v1), (2, .int v2), (3, .int v3)] → k35 () = some (r, o9) → W p l e rmX6_make s m args below meth c H1 L1 0 0 (Qm G (some (.int r)) o9 rmX6_make below args s) (F0 m 35 ls [])) hf ?_ (fun k35 j35 hf => ?_)
  · intro  H1 L1 ls  P hl hf
    refine r_iconst C (v := 0) (by decide) dX6_make_35 ?_
    exact j36 ((0 : Int32)) _ _ _ P (lv_sub hl [0, 1, 2, 3] rfl) hf
  refine r_if_eq C dX6_make_8 hf (fun hf => ?_) (fun hf => ?_)
  · exact j35  _ _ _ P (lv_sub hl [0, 1, 2, 3] rfl) hf
  · refine r_iload_n C hl 2 rfl rfl dX6_make_11 ?_
    refine r_bipush C (v := -50) (by decide) dX6_make_12 ?_
    refine r_bipush C (v := 50) (by decide) dX6_make_14 ?_
    refine r_qSi C P cf_X6_26 (rm := rmX6_in) [.int v2, .int ((-50 : Int32)), .int ((50 : Int32))] [] hf (fun _ h => ctX6_in l G o v2 ((-50 : Int32)) ((50 : Int32)) h) ⟨rfl, rfl⟩ ⟨Nat.le_of_ble_eq_true rfl, Nat.le_of_ble_eq_true rfl⟩ ⟨Nat.le_of_ble_eq_true rfl, Nat.le_of_ble_eq_true rfl⟩ rfl rfl hl.1 (Nat.le_of_ble_eq_true rfl) dX6_make_16 (fun r_10 H1 L1 P hf => ?_)
    refine r_if_eq C dX6_make_19 hf (fun hf => ?_) (fun hf => ?_)
    · exact j35  _ _ _ P (lv_sub hl [0, 1, 2, 3] rfl) hf
    · refine r_iload_n C hl 3 rfl rfl dX6_make_22 ?_
      refine r_iconst C (v := 0) (by decide) dX6_make_23 ?_
      refine r_iconst C (v := 3) (by decide) dX6_make_24 ?_
      refine r_qSi C P cf_X6_26 (rm := rmX6_in) [.int v3, .int ((0 : Int32)), .int ((3 : Int32))] [] hf (fun _ h => ctX6_in l G o v3 ((0 : Int32)) ((3 : Int32)) h) ⟨rfl, rfl⟩ ⟨Nat.le_of_ble_eq_true rfl, Nat.le_of_ble_eq_true rfl⟩ ⟨Nat.le_of_ble_eq_true rfl, Nat.le_of_ble_eq_true rfl⟩ rfl rfl hl.1 (Nat.le_of_ble_eq_true rfl) dX6_make_25 (fun r_11 H1 L1 P hf => ?_)
      refine r_if_eq C dX6_make_28 hf (fun hf => ?_) (fun hf => ?_)
      · exact j35  _ _ _ P (lv_sub hl [0, 1, 2, 3] rfl) hf
      · refine r_iconst C (v := 1) (by decide) dX6_make_31 ?_
        refine r_goto C dX6_make_32 ?_
        exact j36 ((1 : Int32)) _ _ _ P (lv_sub hl [0, 1, 2, 3] rfl) hf
theorem ctX6_make (l : Launch) (G : Gd) (o : OM) (v1 : Int32) (v2 : Int32) (v3 : Int32)  {r : Int32} {o9 : OM} (hf : F_X6_make o v1 v2 v3 = some (r, o9)) : Ct l yX6_make cX6_make 5 (some .int) rmX6_make G [.ref (rA G 19 0), .int v1, .int v2, .int v3] o (some (.int r)) o9 := ct_of (by decide +kernel) (Nat.le_of_ble_eq_true rfl) (fun p e s m below meth c ls C P hl => wX6_make C  P hl hf)
theorem cf_X6_96 : CallF false RX6 96 yX6_isThere cX6_isThere 2 (some .boolean) 1 := ⟨wd_955, (by rw [if_neg (by decide)]; exact ⟨wd_957, wd_23⟩), wd_71, wd_958, by decide, by decide +kernel⟩
theorem dX6_breakOne_0 : Dc cX6_breakOne 0 (.aload_n 0) 1 1 := ⟨by decide +kernel, rfl⟩
theorem dX6_breakOne_1 : Dc cX6_breakOne 1 (.aload_n 0) 1 2 := ⟨by decide +kernel, rfl⟩
theorem dX6_breakOne_2 : Dc cX6_breakOne 2 (.iload_n 1) 1 3 := ⟨by decide +kernel, rfl⟩
theorem dX6_breakOne_3 : Dc cX6_breakOne 3 (.invokevirtual 96) 3 6 := ⟨by decide +kernel, rfl⟩
theorem dX6_breakOne_6 : Dj cX6_breakOne 6 (.ifCond .eq 7) 3 9 (7) 13 := ⟨by decide +kernel, rfl, by decide⟩
theorem dX6_breakOne_9 : Dc cX6_breakOne 9 (.iconst 0) 1 10 := ⟨by decide +kernel, rfl⟩
theorem dX6_breakOne_10 : Dj cX6_breakOne 10 (.goto 4) 3 13 (4) 14 := ⟨by decide +kernel, rfl, by decide⟩
theorem dX6_breakOne_13 : Dc cX6_breakOne 13 (.iconst 1) 1 14 := ⟨by decide +kernel, rfl⟩
theorem dX6_breakOne_14 : Dc cX6_breakOne 14 (.invokevirtual 87) 3 17 := ⟨by decide +kernel, rfl⟩
theorem dX6_breakOne_17 : Dj cX6_breakOne 17 (.ifCond .ne 5) 3 20 (5) 22 := ⟨by decide +kernel, rfl, by decide⟩
theorem dX6_breakOne_20 : Dc cX6_breakOne 20 (.iconst 0) 1 21 := ⟨by decide +kernel, rfl⟩
theorem dX6_breakOne_21 : Dc cX6_breakOne 21 (.ireturn) 1 22 := ⟨by decide +kernel, rfl⟩
theorem dX6_breakOne_22 : Dc cX6_breakOne 22 (.aload_n 0) 1 23 := ⟨by decide +kernel, rfl⟩
theorem dX6_breakOne_23 : Dc cX6_breakOne 23 (.invokevirtual 90) 3 26 := ⟨by decide +kernel, rfl⟩
theorem dX6_breakOne_26 : Dc cX6_breakOne 26 (.aload_n 0) 1 27 := ⟨by decide +kernel, rfl⟩
theorem dX6_breakOne_27 : Dc cX6_breakOne 27 (.iload_n 1) 1 28 := ⟨by decide +kernel, rfl⟩
theorem dX6_breakOne_28 : Dc cX6_breakOne 28 (.bipush 7) 2 30 := ⟨by decide +kernel, rfl⟩
theorem dX6_breakOne_30 : Dc cX6_breakOne 30 (.invokevirtual 37) 3 33 := ⟨by decide +kernel, rfl⟩
theorem dX6_breakOne_33 : Dc cX6_breakOne 33 (.istore_n 2) 1 34 := ⟨by decide +kernel, rfl⟩
theorem dX6_breakOne_34 : Dc cX6_breakOne 34 (.iload_n 1) 1 35 := ⟨by decide +kernel, rfl⟩
theorem dX6_breakOne_35 : Dc cX6_breakOne 35 (.iconst 0) 1 36 := ⟨by decide +kernel, rfl⟩
theorem dX6_breakOne_36 : Dc cX6_breakOne 36 (.invokestatic 30) 3 39 := ⟨by decide +kernel, rfl⟩
theorem dX6_breakOne_39 : Dc cX6_breakOne 39 (.istore_n 3) 1 40 := ⟨by decide +kernel, rfl⟩
theorem dX6_breakOne_40 : Dc cX6_breakOne 40 (.iload_n 3) 1 41 := ⟨by decide +kernel, rfl⟩
theorem dX6_breakOne_41 : Dc cX6_breakOne 41 (.iconst 5) 1 42 := ⟨by decide +kernel, rfl⟩
theorem dX6_breakOne_42 : Dc cX6_breakOne 42 (.iconst 0) 1 43 := ⟨by decide +kernel, rfl⟩
theorem dX6_breakOne_43 : Dc cX6_breakOne 43 (.invokestatic 30) 3 46 := ⟨by decide +kernel, rfl⟩
theorem dX6_breakOne_46 : Dj cX6_breakOne 46 (.if_icmp .ge 24) 3 49 (24) 70 := ⟨by decide +kernel, rfl, by decide⟩
theorem dX6_breakOne_49 : Dc cX6_breakOne 49 (.aload_n 0) 1 50 := ⟨by decide +kernel, rfl⟩
theorem dX6_breakOne_50 : Dc cX6_breakOne 50 (.getfield 7) 3 53 := ⟨by decide +kernel, rfl⟩
theorem dX6_breakOne_53 : Dc cX6_breakOne 53 (.iload_n 3) 1 54 := ⟨by decide +kernel, rfl⟩
theorem dX6_breakOne_54 : Dc cX6_breakOne 54 (.aload_n 0) 1 55 := ⟨by decide +kernel, rfl⟩
theorem dX6_breakOne_55 : Dc cX6_breakOne 55 (.getfield 7) 3 58 := ⟨by decide +kernel, rfl⟩
theorem dX6_breakOne_58 : Dc cX6_breakOne 58 (.iload_n 3) 1 59 := ⟨by decide +kernel, rfl⟩
theorem dX6_breakOne_59 : Dc cX6_breakOne 59 (.bipush 38) 2 61 := ⟨by decide +kernel, rfl⟩
theorem dX6_breakOne_61 : Dc cX6_breakOne 61 (.iadd) 1 62 := ⟨by decide +kernel, rfl⟩
theorem dX6_breakOne_62 : Dc cX6_breakOne 62 (.iaload) 1 63 := ⟨by decide +kernel, rfl⟩
theorem dX6_breakOne_63 : Dc cX6_breakOne 63 (.iastore) 1 64 := ⟨by decide +kernel, rfl⟩
theorem dX6_breakOne_64 : Dc cX6_breakOne 64 (.iinc 3 1) 3 67 := ⟨by decide +kernel, rfl⟩
theorem dX6_breakOne_67 : Dj cX6_breakOne 67 (.goto (-27)) 3 70 (-27) 40 := ⟨by decide +kernel, rfl, by decide⟩
theorem dX6_breakOne_70 : Dc cX6_breakOne 70 (.aload_n 0) 1 71 := ⟨by decide +kernel, rfl⟩
theorem dX6_breakOne_71 : Dc cX6_breakOne 71 (.getfield 7) 3 74 := ⟨by decide +kernel, rfl⟩
theorem dX6_breakOne_74 : Dc cX6_breakOne 74 (.sipush 228) 3 77 := ⟨by decide +kernel, rfl⟩
theorem dX6_breakOne_77 : Dc cX6_breakOne 77 (.dup2) 1 78 := ⟨by decide +kernel, rfl⟩
theorem dX6_breakOne_78 : Dc cX6_breakOne 78 (.iaload) 1 79 := ⟨by decide +kernel, rfl⟩
theorem dX6_breakOne_79 : Dc cX6_breakOne 79 (.iconst 1) 1 80 := ⟨by decide +kernel, rfl⟩
theorem dX6_breakOne_80 : Dc cX6_breakOne 80 (.isub) 1 81 := ⟨by decide +kernel, rfl⟩
theorem dX6_breakOne_81 : Dc cX6_breakOne 81 (.iastore) 1 82 := ⟨by decide +kernel, rfl⟩
theorem dX6_breakOne_82 : Dc cX6_breakOne 82 (.iload_n 2) 1 83 := ⟨by decide +kernel, rfl⟩
theorem dX6_breakOne_83 : Dc cX6_breakOne 83 (.ireturn) 1 84 := ⟨by decide +kernel, rfl⟩
def LX6_breakOne_40 (k70 : OM → Option (Int32 × OM)) : Nat → OM → Int32 → Option (Int32 × OM)
  | 0 => fun _ _ => none
  | n + 1 => fun o_12 v3_11 => bq (F_X6_of o_12 ((5 : Int32)) ((0 : Int32))) (fun r_13 => if r_13 ≤ v3_11 then (k70 o_12) else (grd (inB (v3_11 + ((38 : Int32))) 244) (grd (inB v3_11 244) (bd (wr o_12 20 0 v3_11.toNatClampNeg (rd o_12 20 0 (v3_11 + ((38 : Int32))).toNatClampNeg)) (fun o_14 : OM => bd (v3_11 + (1 : Int32)) (fun v3_15 : Int32 => (LX6_breakOne_40 k70 n) o_14 v3_15))))))
def F_X6_breakOne (o : OM) (v1 : Int32) : Option (Int32 × OM) := bq (F_X6_isThere o v1) (fun r_1 => bd (fun (s_2 : Int32) => bn (F_X6_holds o s_2) (fun r_3 o_4 => if r_3 = 0 then (some (((0 : Int32)), o_4)) else (bn (F_X6_save o_4) (fun _ o_6 => bq (F_X6_get o_6 v1 ((7 : Int32))) (fun r_7 => bq (F_X6_of o_6 v1 ((0 : Int32))) (fun r_8 => bd (fun (o_9 : OM) => grd (inB ((228 : Int32)) 244) (grd (inB ((228 : Int32)) 244) (bd (wr o_9 20 0 ((228 : Int32)).toNatClampNeg ((rd o_9 20 0 ((228 : Int32)).toNatClampNeg) - ((1 : Int32)))) (fun o_10 : OM => some (r_7, o_10))))) (fun k70 => LX6_breakOne_40 k70 FU o_6 r_8))))))) (fun k14 => if r_1 = 0 then (k14 ((1 : Int32))) else (k14 ((0 : Int32)))))
abbrev rmX6_breakOne : Room := { frames := 2, cells := 0, slots := 0, locals := 43 }
set_option maxHeartbeats 4000000 in
set_option maxRecDepth 100000 in
theorem lX6_breakOne_40 {G : Gd} {p : Program} {l : Launch} {e : Env} {s : State} {m : MethodId} {args : Array Value} {below : List Frame} {meth : Method} {c : Code} {r : Int32} {o9 : OM} {r_7 : Int32} (C : Cx G RX6 cX6_breakOne 4 (some .int) p s m args meth c)  {k70 : OM → Option (Int32 × OM)} (j70 : ∀ (o_9 : OM) H1 L1 ls, Hp G o_9 s H1 L1 → lv_has ls 4 [(0, .ref (rA G 19 0)), (2, .int r_7)] → k70 o_9 = some (r, o9) → W p l e rmX6_breakOne s m args below meth c H1 L1 0 0 (Qm G (some (.int r)) o9 rmX6_breakOne below args s) (F0 m 70 ls [])) : ∀ (n : Nat) (o_12 : OM) (v3_11 : Int32) H1 L1 ls, Hp G o_12 s H1 L1 → lv_has ls 4 [(0, .ref (rA G 19 0)), (2, .int r_7), (3, .int v3_11)] → LX6_breakOne_40 k70 n o_12 v3_11 = some (r, o9) → W p l e rmX6_breakOne s m args below meth c H1 L1 0 0 (Qm G (some (.int r)) o9 rmX6_breakOne below args s) (F0 m 40 ls []) := by
  intro n
  induction n with
  | zero =>
    intro o_12 v3_11 H1 L1 ls P hl hf
    exact nomatch hf
  | succ n ih =>
    intro o_12 v3_11 H1 L1 ls P hl hf
    rw [LX6_breakOne_40.eq_2] at hf
    refine r_iload_n C hl 2 rfl rfl dX6_breakOne_40 ?_
    refine r_iconst C (v := 5) (by decide) dX6_breakOne_41 ?_
    refine r_iconst C (v := 0) (by decide) dX6_breakOne_42 ?_
    refine r_qSi C P cf_X6_30 (rm := rmX6_of) [.int ((5 : Int32)), .int ((0 : Int32))] [.int v3_11] hf (fun _ h => ctX6_of l G o_12 ((5 : Int32)) ((0 : Int32)) h) ⟨rfl, rfl⟩ ⟨Nat.le_of_ble_eq_true rfl, Nat.le_of_ble_eq_true rfl⟩ ⟨Nat.le_of_ble_eq_true rfl, Nat.le_of_ble_eq_true rfl⟩ rfl rfl hl.1 (Nat.le_of_ble_eq_true rfl) dX6_breakOne_43 (fun r_13 H1 L1 P hf => ?_)
    refine r_icmp_ge C dX6_breakOne_46 hf (fun hf => ?_) (fun hf => ?_)
    · exact j70 o_12 _ _ _ P (lv_sub hl [0, 1] rfl) hf
    · refine r_aload_n C hl 0 rfl rfl dX6_breakOne_49 ?_
      refine gf_19_1 C P rfl wd_880 dX6_breakOne_50 ?_
      refine r_iload_n C hl 2 rfl rfl dX6_breakOne_53 ?_
      refine r_aload_n C hl 0 rfl rfl dX6_breakOne_54 ?_
      refine gf_19_1 C P rfl wd_880 dX6_breakOne_55 ?_
      refine r_iload_n C hl 2 rfl rfl dX6_breakOne_58 ?_
      refine r_bipush C (v := 38) (by decide) dX6_breakOne_59 ?_
      refine r_iadd2 C dX6_breakOne_61 ?_
      refine r_iald C P (k := 20) (i := 0) (n := 244) (fun _ _ => rfl) rfl dX6_breakOne_62 hf (fun hf => ?_)
      refine r_iast C P (k := 20) (i := 0) (n := 244) (fun _ _ => rfl) rfl dX6_breakOne_63 hf (fun o_14 H1 L1 P hf => ?_)
      refine r_iinc C (fun v3_15 => [(3, .int v3_15), (0, .ref (rA G 19 0)), (2, .int r_7)]) (w := 1) 2 hl rfl (by decide) (by decide) (fun _ => rfl) dX6_breakOne_64 hf (fun v3_15 ls hl hf => ?_)
      refine r_goto C dX6_breakOne_67 ?_
      exact ih o_14 v3_15 _ _ _ P (lv_sub hl [1, 2, 0] rfl) hf
set_option maxHeartbeats 4000000 in
set_option maxRecDepth 100000 in
theorem wX6_breakOne {G : Gd} {p : Program} {l : Launch} {e : Env} {s : State} {m : MethodId} {args : Array Value} {below : List Frame} {meth : Method} {c : Code} {o : OM} {H : Heap} {L0 : List Loc} {ls : Array Slot} {r : Int32} {o9 : OM} {v1 : Int32} (C : Cx G RX6 cX6_breakOne 4 (some .int) p s m args meth c)  (P : Hp G o s H L0) (hl : lv_has ls 4 [(0, .ref (rA G 19 0)), (1, .int v1)]) (hf : F_X6_breakOne o v1 = some (r, o9)) : W p l e rmX6_breakOne s m args below meth c H L0 0 0 (Qm G (some (.int r)) o9 rmX6_breakOne below args s) (F0 m 0 ls []) := by
  unfold F_X6_breakOne at hf
  refine r_aload_n C hl 0 rfl rfl dX6_breakOne_0 ?_
  refine r_aload_n C hl 0 rfl rfl dX6_breakOne_1 ?_
  refine r_iload_n C hl 1 rfl rfl dX6_breakOne_2 ?_
  refine r_qVi C P cf_X6_96 (rm := rmX6_isThere) 19 0 (fun _ _ => ⟨_, rfl⟩) rfl rfl rfl [.int v1] [.ref (rA G 19 0)] hf (fun _ h => ctX6_isThere l G o v1 h) ⟨rfl, rfl⟩ ⟨Nat.le_of_ble_eq_true rfl, Nat.le_of_ble_eq_true rfl⟩ ⟨Nat.le_of_ble_eq_true rfl, Nat.le_of_ble_eq_true rfl⟩ rfl rfl hl.1 (Nat.le_of_ble_eq_true rfl) dX6_breakOne_3 (fun r_1 H1 L1 P hf => ?_)
  refine r_jn (fun k14 : Int32 → Option (Int32 × OM) => ∀ (s_2 : Int32) H1 L1 ls, Hp G o s H1 L1 → lv_has ls 4 [(0, .ref (rA G 19 0)), (1, .int v1)] → k14 s_2 = some (r, o9) → W p l e rmX6_breakOne s m args below meth c H1 L1 0 0 (Qm G (some (.int r)) o9 rmX6_breakOne below args s) (F0 m 14 ls [.int s_2, .ref (rA G 19 0)])) hf ?_ (fun k14 j14 hf => ?_)
  · intro s_2 H1 L1 ls  P hl hf
    refine r_cVi C P cf_X6_87 (rm := rmX6_holds) 19 0 (fun _ _ => ⟨_, rfl⟩) rfl rfl rfl [.int s_2] [] hf (fun _ _ h => ctX6_holds l G o s_2 h) ⟨rfl, rfl⟩ ⟨Nat.le_of_ble_eq_true rfl, Nat.le_of_ble_eq_true rfl⟩ ⟨Nat.le_of_ble_eq_true rfl, Nat.le_of_ble_eq_true rfl⟩ rfl rfl hl.1 (Nat.le_of_ble_eq_true rfl) dX6_breakOne_14 (fun r_3 o_4 H1 L1 P hf => ?_)
    refine r_if_ne C dX6_breakOne_17 hf (fun hf => ?_) (fun hf => ?_)
    · refine r_aload_n C hl 0 rfl rfl dX6_breakOne_22 ?_
      refine r_cVv C P cf_X6_90 (rm := rmX6_save) 19 0 (fun _ _ => ⟨_, rfl⟩) rfl rfl rfl [] [] hf (fun _ _ h => ctX6_save l G o_4 h) ⟨rfl, rfl⟩ ⟨Nat.le_of_ble_eq_true rfl, Nat.le_of_ble_eq_true rfl⟩ ⟨Nat.le_of_ble_eq_true rfl, Nat.le_of_ble_eq_true rfl⟩ rfl rfl hl.1 (Nat.le_of_ble_eq_true rfl) dX6_breakOne_23 (fun _ o_6 H1 L1 P hf => ?_)
      refine r_aload_n C hl 0 rfl rfl dX6_breakOne_26 ?_
      refine r_iload_n C hl 1 rfl rfl dX6_breakOne_27 ?_
      refine r_bipush C (v := 7) (by decide) dX6_breakOne_28 ?_
      refine r_qVi C P cf_X6_37 (rm := rmX6_get) 19 0 (fun _ _ => ⟨_, rfl⟩) rfl rfl rfl [.int v1, .int ((7 : Int32))] [] hf (fun _ h => ctX6_get l G o_6 v1 ((7 : Int32)) h) ⟨rfl, rfl⟩ ⟨Nat.le_of_ble_eq_true rfl, Nat.le_of_ble_eq_true rfl⟩ ⟨Nat.le_of_ble_eq_true rfl, Nat.le_of_ble_eq_true rfl⟩ rfl rfl hl.1 (Nat.le_of_ble_eq_true rfl) dX6_breakOne_30 (fun r_7 H1 L1 P hf => ?_)
      refine r_istore_n C [(2, .int r_7), (0, .ref (rA G 19 0)), (1, .int v1)] hl (by decide) rfl rfl dX6_breakOne_33 (fun ls hl => ?_)
      refine r_iload_n C hl 2 rfl rfl dX6_breakOne_34 ?_
      refine r_iconst C (v := 0) (by decide) dX6_breakOne_35 ?_
      refine r_qSi C P cf_X6_30 (rm := rmX6_of) [.int v1, .int ((0 : Int32))] [] hf (fun _ h => ctX6_of l G o_6 v1 ((0 : Int32)) h) ⟨rfl, rfl⟩ ⟨Nat.le_of_ble_eq_true rfl, Nat.le_of_ble_eq_true rfl⟩ ⟨Nat.le_of_ble_eq_true rfl, Nat.le_of_ble_eq_true rfl⟩ rfl rfl hl.1 (Nat.le_of_ble_eq_true rfl) dX6_breakOne_36 (fun r_8 H1 L1 P hf => ?_)
      refine r_istore_n C [(3, .int r_8), (2, .int r_7), (0, .ref (rA G 19 0)), (1, .int v1)] hl (by decide) rfl rfl dX6_breakOne_39 (fun ls hl => ?_)
      refine r_jn (fun k70 : OM → Option (Int32 × OM) => ∀ (o_9 : OM) H1 L1 ls, Hp G o_9 s H1 L1 → lv_has ls 4 [(0, .ref (rA G 19 0)), (2, .int r_7)] → k70 o_9 = some (r, o9) → W p l e rmX6_breakOne s m args below meth c H1 L1 0 0 (Qm G (some (.int r)) o9 rmX6_breakOne below args s) (F0 m 70 ls [])) hf ?_ (fun k70 j70 hf => ?_)
      · intro o_9 H1 L1 ls  P hl hf
        refine r_aload_n C hl 0 rfl rfl dX6_breakOne_70 ?_
        refine gf_19_1 C P rfl wd_880 dX6_breakOne_71 ?_
        refine r_sipush C (v := 228) (by decide) dX6_breakOne_74 ?_
        refine r_dup2 C rfl rfl dX6_breakOne_77 ?_
        refine r_iald C P (k := 20) (i := 0) (n := 244) (fun _ _ => rfl) rfl dX6_breakOne_78 hf (fun hf => ?_)
        refine r_iconst C (v := 1) (by decide) dX6_breakOne_79 ?_
        refine r_isub C dX6_breakOne_80 ?_
        refine r_iast C P (k := 20) (i := 0) (n := 244) (fun _ _ => rfl) rfl dX6_breakOne_81 hf (fun o_10 H1 L1 P hf => ?_)
        refine r_iload_n C hl 1 rfl rfl dX6_breakOne_82 ?_
        exact r_iret C P (rm := rmX6_breakOne) ⟨rfl, rfl⟩ dX6_breakOne_83 hf
      exact lX6_breakOne_40 C  j70 FU o_6 r_8 _ _ _ P (lv_sub hl [2, 1, 0] rfl) hf
    · refine r_iconst C (v := 0) (by decide) dX6_breakOne_20 ?_
      exact r_iret C P (rm := rmX6_breakOne) ⟨rfl, rfl⟩ dX6_breakOne_21 hf
  refine r_if_eq C dX6_breakOne_6 hf (fun hf => ?_) (fun hf => ?_)
  · refine r_iconst C (v := 1) (by decide) dX6_breakOne_13 ?_
    exact j14 ((1 : Int32)) _ _ _ P (lv_sub hl [0, 1] rfl) hf
  · refine r_iconst C (v := 0) (by decide) dX6_breakOne_9 ?_
    refine r_goto C dX6_breakOne_10 ?_
    exact j14 ((0 : Int32)) _ _ _ P (lv_sub hl [0, 1] rfl) hf
theorem ctX6_breakOne (l : Launch) (G : Gd) (o : OM) (v1 : Int32)  {r : Int32} {o9 : OM} (hf : F_X6_breakOne o v1 = some (r, o9)) : Ct l yX6_breakOne cX6_breakOne 4 (some .int) rmX6_breakOne G [.ref (rA G 19 0), .int v1] o (some (.int r)) o9 := ct_of (by decide +kernel) (Nat.le_of_ble_eq_true rfl) (fun p e s m below meth c ls C P hl => wX6_breakOne C  P hl hf)
theorem cf_X6_99 : CallF true RX6 99 yX6_isBath cX6_isBath 1 (some .boolean) 1 := ⟨wd_967, (by rw [if_pos rfl]; exact wd_968), wd_71, wd_969, by decide, by decide +kernel⟩
theorem cf_X6_102 : CallF true RX6 102 yX6_isDegree cX6_isDegree 1 (some .boolean) 1 := ⟨wd_970, (by rw [if_pos rfl]; exact wd_971), wd_71, wd_972, by decide, by decide +kernel⟩
theorem cf_X6_105 : CallF false RX6 105 yX6_fills cX6_fills 4 (some .int) 2 := ⟨wd_973, (by rw [if_neg (by decide)]; exact ⟨wd_975, wd_25⟩), wd_71, wd_976, by decide, by decide +kernel⟩
theorem dX6_bath_0 : Dc cX6_bath 0 (.aload_n 0) 1 1 := ⟨by decide +kernel, rfl⟩
theorem dX6_bath_1 : Dc cX6_bath 1 (.iload_n 1) 1 2 := ⟨by decide +kernel, rfl⟩
theorem dX6_bath_2 : Dc cX6_bath 2 (.invokestatic 99) 3 5 := ⟨by decide +kernel, rfl⟩
theorem dX6_bath_5 : Dj cX6_bath 5 (.ifCond .ne 7) 3 8 (7) 12 := ⟨by decide +kernel, rfl, by decide⟩
theorem dX6_bath_8 : Dc cX6_bath 8 (.iconst 1) 1 9 := ⟨by decide +kernel, rfl⟩
theorem dX6_bath_9 : Dj cX6_bath 9 (.goto 15) 3 12 (15) 24 := ⟨by decide +kernel, rfl, by decide⟩
theorem dX6_bath_12 : Dc cX6_bath 12 (.iload_n 2) 1 13 := ⟨by decide +kernel, rfl⟩
theorem dX6_bath_13 : Dc cX6_bath 13 (.invokestatic 102) 3 16 := ⟨by decide +kernel, rfl⟩
theorem dX6_bath_16 : Dj cX6_bath 16 (.ifCond .eq 7) 3 19 (7) 23 := ⟨by decide +kernel, rfl, by decide⟩
theorem dX6_bath_19 : Dc cX6_bath 19 (.iconst 0) 1 20 := ⟨by decide +kernel, rfl⟩
theorem dX6_bath_20 : Dj cX6_bath 20 (.goto 4) 3 23 (4) 24 := ⟨by decide +kernel, rfl, by decide⟩
theorem dX6_bath_23 : Dc cX6_bath 23 (.iconst 2) 1 24 := ⟨by decide +kernel, rfl⟩
theorem dX6_bath_24 : Dc cX6_bath 24 (.invokevirtual 87) 3 27 := ⟨by decide +kernel, rfl⟩
theorem dX6_bath_27 : Dj cX6_bath 27 (.ifCond .ne 5) 3 30 (5) 32 := ⟨by decide +kernel, rfl, by decide⟩
theorem dX6_bath_30 : Dc cX6_bath 30 (.iconst 0) 1 31 := ⟨by decide +kernel, rfl⟩
theorem dX6_bath_31 : Dc cX6_bath 31 (.ireturn) 1 32 := ⟨by decide +kernel, rfl⟩
theorem dX6_bath_32 : Dc cX6_bath 32 (.aload_n 0) 1 33 := ⟨by decide +kernel, rfl⟩
theorem dX6_bath_33 : Dc cX6_bath 33 (.invokevirtual 90) 3 36 := ⟨by decide +kernel, rfl⟩
theorem dX6_bath_36 : Dc cX6_bath 36 (.aload_n 0) 1 37 := ⟨by decide +kernel, rfl⟩
theorem dX6_bath_37 : Dc cX6_bath 37 (.iload_n 1) 1 38 := ⟨by decide +kernel, rfl⟩
theorem dX6_bath_38 : Dc cX6_bath 38 (.iload_n 2) 1 39 := ⟨by decide +kernel, rfl⟩
theorem dX6_bath_39 : Dc cX6_bath 39 (.invokevirtual 105) 3 42 := ⟨by decide +kernel, rfl⟩
theorem dX6_bath_42 : Dc cX6_bath 42 (.ireturn) 1 43 := ⟨by decide +kernel, rfl⟩
def F_X6_bath (o : OM) (v1 : Int32) (v2 : Int32) : Option (Int32 × OM) := bq (F_X6_isBath o v1) (fun r_1 => bd (fun (s_2 : Int32) => bn (F_X6_holds o s_2) (fun r_3 o_4 => if r_3 = 0 then (some (((0 : Int32)), o_4)) else (bn (F_X6_save o_4) (fun _ o_6 => bn (F_X6_fills o_6 v1 v2) (fun r_7 o_8 => some (r_7, o_8)))))) (fun k24 => if r_1 = 0 then (k24 ((1 : Int32))) else (bq (F_X6_isDegree o v2) (fun r_9 => if r_9 = 0 then (k24 ((2 : Int32))) else (k24 ((0 : Int32)))))))
abbrev rmX6_bath : Room := { frames := 2, cells := 0, slots := 0, locals := 42 }
set_option maxHeartbeats 4000000 in
set_option maxRecDepth 100000 in
theorem wX6_bath {G : Gd} {p : Program} {l : Launch} {e : Env} {s : State} {m : MethodId} {args : Array Value} {below : List Frame} {meth : Method} {c : Code} {o : OM} {H : Heap} {L0 : List Loc} {ls : Array Slot} {r : Int32} {o9 : OM} {v1 : Int32} {v2 : Int32} (C : Cx G RX6 cX6_bath 3 (some .int) p s m args meth c)  (P : Hp G o s H L0) (hl : lv_has ls 3 [(0, .ref (rA G 19 0)), (1, .int v1), (2, .int v2)]) (hf : F_X6_bath o v1 v2 = some (r, o9)) : W p l e rmX6_bath s m args below meth c H L0 0 0 (Qm G (some (.int r)) o9 rmX6_bath below args s) (F0 m 0 ls []) := by
  unfold F_X6_bath at hf
  refine r_aload_n C hl 0 rfl rfl dX6_bath_0 ?_
  refine r_iload_n C hl 1 rfl rfl dX6_bath_1 ?_
  refine r_qSi C P cf_X6_99 (rm := rmX6_isBath) [.int v1] [.ref (rA G 19 0)] hf (fun _ h => ctX6_isBath l G o v1 h) ⟨rfl, rfl⟩ ⟨Nat.le_of_ble_eq_true rfl, Nat.le_of_ble_eq_true rfl⟩ ⟨Nat.le_of_ble_eq_true rfl, Nat.le_of_ble_eq_true rfl⟩ rfl rfl hl.1 (Nat.le_of_ble_eq_true rfl) dX6_bath_2 (fun r_1 H1 L1 P hf => ?_)
  refine r_jn (fun k24 : Int32 → Option (Int32 × OM) => ∀ (s_2 : Int32) H1 L1 ls, Hp G o s H1 L1 → lv_has ls 3 [(0, .ref (rA G 19 0)), (1, .int v1), (2, .int v2)] → k24 s_2 = some (r, o9) → W p l e rmX6_bath s m args below meth c H1 L1 0 0 (Qm G (some (.int r)) o9 rmX6_bath below args s) (F0 m 24 ls [.int s_2, .ref (rA G 19 0)])) hf ?_ (fun k24 j24 hf => ?_)
  · intro s_2 H1 L1 ls  P hl hf
    refine r_cVi C P cf_X6_87 (rm := rmX6_holds) 19 0 (fun _ _ => ⟨_, rfl⟩) rfl rfl rfl [.int s_2] [] hf (fun _ _ h => ctX6_holds l G o s_2 h) ⟨rfl, rfl⟩ ⟨Nat.le_of_ble_eq_true rfl, Nat.le_of_ble_eq_true rfl⟩ ⟨Nat.le_of_ble_eq_true rfl, Nat.le_of_ble_eq_true rfl⟩ rfl rfl hl.1 (Nat.le_of_ble_eq_true rfl) dX6_bath_24 (fun r_3 o_4 H1 L1 P hf => ?_)
    refine r_if_ne C dX6_bath_27 hf (fun hf => ?_) (fun hf => ?_)
    · refine r_aload_n C hl 0 rfl rfl dX6_bath_32 ?_
      refine r_cVv C P cf_X6_90 (rm := rmX6_save) 19 0 (fun _ _ => ⟨_, rfl⟩) rfl rfl rfl [] [] hf (fun _ _ h => ctX6_save l G o_4 h) ⟨rfl, rfl⟩ ⟨Nat.le_of_ble_eq_true rfl, Nat.le_of_ble_eq_true rfl⟩ ⟨Nat.le_of_ble_eq_true rfl, Nat.le_of_ble_eq_true rfl⟩ rfl rfl hl.1 (Nat.le_of_ble_eq_true rfl) dX6_bath_33 (fun _ o_6 H1 L1 P hf => ?_)
      refine r_aload_n C hl 0 rfl rfl dX6_bath_36 ?_
      refine r_iload_n C hl 1 rfl rfl dX6_bath_37 ?_
      refine r_iload_n C hl 2 rfl rfl dX6_bath_38 ?_
      refine r_cVi C P cf_X6_105 (rm := rmX6_fills) 19 0 (fun _ _ => ⟨_, rfl⟩) rfl rfl rfl [.int v1, .int v2] [] hf (fun _ _ h => ctX6_fills l G o_6 v1 v2 h) ⟨rfl, rfl⟩ ⟨Nat.le_of_ble_eq_true rfl, Nat.le_of_ble_eq_true rfl⟩ ⟨Nat.le_of_ble_eq_true rfl, Nat.le_of_ble_eq_true rfl⟩ rfl rfl hl.1 (Nat.le_of_ble_eq_true rfl) dX6_bath_39 (fun r_7 o_8 H1 L1 P hf => ?_)
      exact r_iret C P (rm := rmX6_bath) ⟨rfl, rfl⟩ dX6_bath_42 hf
    · refine r_iconst C (v := 0) (by decide) dX6_bath_30 ?_
      exact r_iret C P (rm := rmX6_bath) ⟨rfl, rfl⟩ dX6_bath_31 hf
  refine r_if_ne C dX6_bath_5 hf (fun hf => ?_) (fun hf => ?_)
  · refine r_iload_n C hl 2 rfl rfl dX6_bath_12 ?_
    refine r_qSi C P cf_X6_102 (rm := rmX6_isDegree) [.int v2] [.ref (rA G 19 0)] hf (fun _ h => ctX6_isDegree l G o v2 h) ⟨rfl, rfl⟩ ⟨Nat.le_of_ble_eq_true rfl, Nat.le_of_ble_eq_true rfl⟩ ⟨Nat.le_of_ble_eq_true rfl, Nat.le_of_ble_eq_true rfl⟩ rfl rfl hl.1 (Nat.le_of_ble_eq_true rfl) dX6_bath_13 (fun r_9 H1 L1 P hf => ?_)
    refine r_if_eq C dX6_bath_16 hf (fun hf => ?_) (fun hf => ?_)
    · refine r_iconst C (v := 2) (by decide) dX6_bath_23 ?_
      exact j24 ((2 : Int32)) _ _ _ P (lv_sub hl [0, 1, 2] rfl) hf
    · refine r_iconst C (v := 0) (by decide) dX6_bath_19 ?_
      refine r_goto C dX6_bath_20 ?_
      exact j24 ((0 : Int32)) _ _ _ P (lv_sub hl [0, 1, 2] rfl) hf
  · refine r_iconst C (v := 1) (by decide) dX6_bath_8 ?_
    refine r_goto C dX6_bath_9 ?_
    exact j24 ((1 : Int32)) _ _ _ P (lv_sub hl [0, 1, 2] rfl) hf
theorem ctX6_bath (l : Launch) (G : Gd) (o : OM) (v1 : Int32) (v2 : Int32)  {r : Int32} {o9 : OM} (hf : F_X6_bath o v1 v2 = some (r, o9)) : Ct l yX6_bath cX6_bath 3 (some .int) rmX6_bath G [.ref (rA G 19 0), .int v1, .int v2] o (some (.int r)) o9 := ct_of (by decide +kernel) (Nat.le_of_ble_eq_true rfl) (fun p e s m below meth c ls C P hl => wX6_bath C  P hl hf)
theorem cf_X6_108 : CallF false RX6 108 yX6_passes cX6_passes 4 (some .int) 1 := ⟨wd_981, (by rw [if_neg (by decide)]; exact ⟨wd_983, wd_26⟩), wd_71, wd_984, by decide, by decide +kernel⟩
theorem dX6_pass_0 : Dc cX6_pass 0 (.aload_n 0) 1 1 := ⟨by decide +kernel, rfl⟩
theorem dX6_pass_1 : Dc cX6_pass 1 (.iload_n 1) 1 2 := ⟨by decide +kernel, rfl⟩
theorem dX6_pass_2 : Dc cX6_pass 2 (.iconst 1) 1 3 := ⟨by decide +kernel, rfl⟩
theorem dX6_pass_3 : Dc cX6_pass 3 (.bipush 20) 2 5 := ⟨by decide +kernel, rfl⟩
theorem dX6_pass_5 : Dc cX6_pass 5 (.invokestatic 26) 3 8 := ⟨by decide +kernel, rfl⟩
theorem dX6_pass_8 : Dj cX6_pass 8 (.ifCond .eq 7) 3 11 (7) 15 := ⟨by decide +kernel, rfl, by decide⟩
theorem dX6_pass_11 : Dc cX6_pass 11 (.iconst 0) 1 12 := ⟨by decide +kernel, rfl⟩
theorem dX6_pass_12 : Dj cX6_pass 12 (.goto 4) 3 15 (4) 16 := ⟨by decide +kernel, rfl, by decide⟩
theorem dX6_pass_15 : Dc cX6_pass 15 (.iconst 1) 1 16 := ⟨by decide +kernel, rfl⟩
theorem dX6_pass_16 : Dc cX6_pass 16 (.invokevirtual 87) 3 19 := ⟨by decide +kernel, rfl⟩
theorem dX6_pass_19 : Dj cX6_pass 19 (.ifCond .ne 5) 3 22 (5) 24 := ⟨by decide +kernel, rfl, by decide⟩
theorem dX6_pass_22 : Dc cX6_pass 22 (.iconst 0) 1 23 := ⟨by decide +kernel, rfl⟩
theorem dX6_pass_23 : Dc cX6_pass 23 (.ireturn) 1 24 := ⟨by decide +kernel, rfl⟩
theorem dX6_pass_24 : Dc cX6_pass 24 (.aload_n 0) 1 25 := ⟨by decide +kernel, rfl⟩
theorem dX6_pass_25 : Dc cX6_pass 25 (.invokevirtual 90) 3 28 := ⟨by decide +kernel, rfl⟩
theorem dX6_pass_28 : Dc cX6_pass 28 (.aload_n 0) 1 29 := ⟨by decide +kernel, rfl⟩
theorem dX6_pass_29 : Dc cX6_pass 29 (.iload_n 1) 1 30 := ⟨by decide +kernel, rfl⟩
theorem dX6_pass_30 : Dc cX6_pass 30 (.invokevirtual 108) 3 33 := ⟨by decide +kernel, rfl⟩
theorem dX6_pass_33 : Dc cX6_pass 33 (.ireturn) 1 34 := ⟨by decide +kernel, rfl⟩
def F_X6_pass (o : OM) (v1 : Int32) : Option (Int32 × OM) := bq (F_X6_in o v1 ((1 : Int32)) ((20 : Int32))) (fun r_1 => bd (fun (s_2 : Int32) => bn (F_X6_holds o s_2) (fun r_3 o_4 => if r_3 = 0 then (some (((0 : Int32)), o_4)) else (bn (F_X6_save o_4) (fun _ o_6 => bn (F_X6_passes o_6 v1) (fun r_7 o_8 => some (r_7, o_8)))))) (fun k16 => if r_1 = 0 then (k16 ((1 : Int32))) else (k16 ((0 : Int32)))))
abbrev rmX6_pass : Room := { frames := 3, cells := 0, slots := 0, locals := 66 }
set_option maxHeartbeats 4000000 in
set_option maxRecDepth 100000 in
theorem wX6_pass {G : Gd} {p : Program} {l : Launch} {e : Env} {s : State} {m : MethodId} {args : Array Value} {below : List Frame} {meth : Method} {c : Code} {o : OM} {H : Heap} {L0 : List Loc} {ls : Array Slot} {r : Int32} {o9 : OM} {v1 : Int32} (C : Cx G RX6 cX6_pass 2 (some .int) p s m args meth c)  (P : Hp G o s H L0) (hl : lv_has ls 2 [(0, .ref (rA G 19 0)), (1, .int v1)]) (hf : F_X6_pass o v1 = some (r, o9)) : W p l e rmX6_pass s m args below meth c H L0 0 0 (Qm G (some (.int r)) o9 rmX6_pass below args s) (F0 m 0 ls []) := by
  unfold F_X6_pass at hf
  refine r_aload_n C hl 0 rfl rfl dX6_pass_0 ?_
  refine r_iload_n C hl 1 rfl rfl dX6_pass_1 ?_
  refine r_iconst C (v := 1) (by decide) dX6_pass_2 ?_
  refine r_bipush C (v := 20) (by decide) dX6_pass_3 ?_
  refine r_qSi C P cf_X6_26 (rm := rmX6_in) [.int v1, .int ((1 : Int32)), .int ((20 : Int32))] [.ref (rA G 19 0)] hf (fun _ h => ctX6_in l G o v1 ((1 : Int32)) ((20 : Int32)) h) ⟨rfl, rfl⟩ ⟨Nat.le_of_ble_eq_true rfl, Nat.le_of_ble_eq_true rfl⟩ ⟨Nat.le_of_ble_eq_true rfl, Nat.le_of_ble_eq_true rfl⟩ rfl rfl hl.1 (Nat.le_of_ble_eq_true rfl) dX6_pass_5 (fun r_1 H1 L1 P hf => ?_)
  refine r_jn (fun k16 : Int32 → Option (Int32 × OM) => ∀ (s_2 : Int32) H1 L1 ls, Hp G o s H1 L1 → lv_has ls 2 [(0, .ref (rA G 19 0)), (1, .int v1)] → k16 s_2 = some (r, o9) → W p l e rmX6_pass s m args below meth c H1 L1 0 0 (Qm G (some (.int r)) o9 rmX6_pass below args s) (F0 m 16 ls [.int s_2, .ref (rA G 19 0)])) hf ?_ (fun k16 j16 hf => ?_)
  · intro s_2 H1 L1 ls  P hl hf
    refine r_cVi C P cf_X6_87 (rm := rmX6_holds) 19 0 (fun _ _ => ⟨_, rfl⟩) rfl rfl rfl [.int s_2] [] hf (fun _ _ h => ctX6_holds l G o s_2 h) ⟨rfl, rfl⟩ ⟨Nat.le_of_ble_eq_true rfl, Nat.le_of_ble_eq_true rfl⟩ ⟨Nat.le_of_ble_eq_true rfl, Nat.le_of_ble_eq_true rfl⟩ rfl rfl hl.1 (Nat.le_of_ble_eq_true rfl) dX6_pass_16 (fun r_3 o_4 H1 L1 P hf => ?_)
    refine r_if_ne C dX6_pass_19 hf (fun hf => ?_) (fun hf => ?_)
    · refine r_aload_n C hl 0 rfl rfl dX6_pass_24 ?_
      refine r_cVv C P cf_X6_90 (rm := rmX6_save) 19 0 (fun _ _ => ⟨_, rfl⟩) rfl rfl rfl [] [] hf (fun _ _ h => ctX6_save l G o_4 h) ⟨rfl, rfl⟩ ⟨Nat.le_of_ble_eq_true rfl, Nat.le_of_ble_eq_true rfl⟩ ⟨Nat.le_of_ble_eq_true rfl, Nat.le_of_ble_eq_true rfl⟩ rfl rfl hl.1 (Nat.le_of_ble_eq_true rfl) dX6_pass_25 (fun _ o_6 H1 L1 P hf => ?_)
      refine r_aload_n C hl 0 rfl rfl dX6_pass_28 ?_
      refine r_iload_n C hl 1 rfl rfl dX6_pass_29 ?_
      refine r_cVi C P cf_X6_108 (rm := rmX6_passes) 19 0 (fun _ _ => ⟨_, rfl⟩) rfl rfl rfl [.int v1] [] hf (fun _ _ h => ctX6_passes l G o_6 v1 h) ⟨rfl, rfl⟩ ⟨Nat.le_of_ble_eq_true rfl, Nat.le_of_ble_eq_true rfl⟩ ⟨Nat.le_of_ble_eq_true rfl, Nat.le_of_ble_eq_true rfl⟩ rfl rfl hl.1 (Nat.le_of_ble_eq_true rfl) dX6_pass_30 (fun r_7 o_8 H1 L1 P hf => ?_)
      exact r_iret C P (rm := rmX6_pass) ⟨rfl, rfl⟩ dX6_pass_33 hf
    · refine r_iconst C (v := 0) (by decide) dX6_pass_22 ?_
      exact r_iret C P (rm := rmX6_pass) ⟨rfl, rfl⟩ dX6_pass_23 hf
  refine r_if_eq C dX6_pass_8 hf (fun hf => ?_) (fun hf => ?_)
  · refine r_iconst C (v := 1) (by decide) dX6_pass_15 ?_
    exact j16 ((1 : Int32)) _ _ _ P (lv_sub hl [0, 1] rfl) hf
  · refine r_iconst C (v := 0) (by decide) dX6_pass_11 ?_
    refine r_goto C dX6_pass_12 ?_
    exact j16 ((0 : Int32)) _ _ _ P (lv_sub hl [0, 1] rfl) hf
theorem ctX6_pass (l : Launch) (G : Gd) (o : OM) (v1 : Int32)  {r : Int32} {o9 : OM} (hf : F_X6_pass o v1 = some (r, o9)) : Ct l yX6_pass cX6_pass 2 (some .int) rmX6_pass G [.ref (rA G 19 0), .int v1] o (some (.int r)) o9 := ct_of (by decide +kernel) (Nat.le_of_ble_eq_true rfl) (fun p e s m below meth c ls C P hl => wX6_pass C  P hl hf)
theorem dX6_greatest_0 : Dc cX6_greatest 0 (.iload_n 0) 1 1 := ⟨by decide +kernel, rfl⟩
theorem dX6_greatest_1 : Dc cX6_greatest 1 (.iconst 4) 1 2 := ⟨by decide +kernel, rfl⟩
theorem dX6_greatest_2 : Dj cX6_greatest 2 (.if_icmp .ge 8) 3 5 (8) 10 := ⟨by decide +kernel, rfl, by decide⟩
theorem dX6_greatest_5 : Dc cX6_greatest 5 (.bipush 60) 2 7 := ⟨by decide +kernel, rfl⟩
theorem dX6_greatest_7 : Dj cX6_greatest 7 (.goto 15) 3 10 (15) 22 := ⟨by decide +kernel, rfl, by decide⟩
theorem dX6_greatest_10 : Dc cX6_greatest 10 (.iload_n 0) 1 11 := ⟨by decide +kernel, rfl⟩
theorem dX6_greatest_11 : Dc cX6_greatest 11 (.iconst 4) 1 12 := ⟨by decide +kernel, rfl⟩
theorem dX6_greatest_12 : Dj cX6_greatest 12 (.if_icmp .ne 8) 3 15 (8) 20 := ⟨by decide +kernel, rfl, by decide⟩
theorem dX6_greatest_15 : Dc cX6_greatest 15 (.bipush 20) 2 17 := ⟨by decide +kernel, rfl⟩
theorem dX6_greatest_17 : Dj cX6_greatest 17 (.goto 5) 3 20 (5) 22 := ⟨by decide +kernel, rfl, by decide⟩
theorem dX6_greatest_20 : Dc cX6_greatest 20 (.bipush 100) 2 22 := ⟨by decide +kernel, rfl⟩
theorem dX6_greatest_22 : Dc cX6_greatest 22 (.ireturn) 1 23 := ⟨by decide +kernel, rfl⟩
def F_X6_greatest (o : OM) (v0 : Int32) : Option Int32 := bd (fun (s_1 : Int32) => some s_1) (fun k22 => if ((4 : Int32)) ≤ v0 then (if v0 = ((4 : Int32)) then (k22 ((20 : Int32))) else (k22 ((100 : Int32)))) else (k22 ((60 : Int32))))
abbrev rmX6_greatest : Room := { frames := 0, cells := 0, slots := 0, locals := 0 }
set_option maxHeartbeats 4000000 in
set_option maxRecDepth 100000 in
theorem wX6_greatest {G : Gd} {p : Program} {l : Launch} {e : Env} {s : State} {m : MethodId} {args : Array Value} {below : List Frame} {meth : Method} {c : Code} {o : OM} {H : Heap} {L0 : List Loc} {ls : Array Slot} {r : Int32} {v0 : Int32} (C : Cx G RX6 cX6_greatest 1 (some .int) p s m args meth c)  (P : Hp G o s H L0) (hl : lv_has ls 1 [(0, .int v0)]) (hf : F_X6_greatest o v0 = some r) : W p l e rmX6_greatest s m args below meth c H L0 0 0 (Qm G (some (.int r)) o rmX6_greatest below args s) (F0 m 0 ls []) := by
  unfold F_X6_greatest at hf
  refine r_iload_n C hl 0 rfl rfl dX6_greatest_0 ?_
  refine r_iconst C (v := 4) (by decide) dX6_greatest_1 ?_
  refine r_jn (fun k22 : Int32 → Option Int32 => ∀ (s_1 : Int32) H1 L1 ls, Hp G o s H1 L1 → lv_has ls 1 [] → k22 s_1 = some r → W p l e rmX6_greatest s m args below meth c H1 L1 0 0 (Qm G (some (.int r)) o rmX6_greatest below args s) (F0 m 22 ls [.int s_1])) hf ?_ (fun k22 j22 hf => ?_)
  · intro s_1 H1 L1 ls  P hl hf
    exact q_iret C P (rm := rmX6_greatest) ⟨rfl, rfl⟩ dX6_greatest_22 hf
  refine r_icmp_ge C dX6_greatest_2 hf (fun hf => ?_) (fun hf => ?_)
  · refine r_iload_n C hl 0 rfl rfl dX6_greatest_10 ?_
    refine r_iconst C (v := 4) (by decide) dX6_greatest_11 ?_
    refine r_icmp_ne C dX6_greatest_12 hf (fun hf => ?_) (fun hf => ?_)
    · refine r_bipush C (v := 100) (by decide) dX6_greatest_20 ?_
      exact j22 ((100 : Int32)) _ _ _ P (lv_sub hl [] rfl) hf
    · refine r_bipush C (v := 20) (by decide) dX6_greatest_15 ?_
      refine r_goto C dX6_greatest_17 ?_
      exact j22 ((20 : Int32)) _ _ _ P (lv_sub hl [] rfl) hf
  · refine r_bipush C (v := 60) (by decide) dX6_greatest_5 ?_
    refine r_goto C dX6_greatest_7 ?_
    exact j22 ((60 : Int32)) _ _ _ P (lv_sub hl [] rfl) hf
theorem ctX6_greatest (l : Launch) (G : Gd) (o : OM) (v0 : Int32)  {r : Int32} (hf : F_X6_greatest o v0 = some r) : Ct l yX6_greatest cX6_greatest 1 (some .int) rmX6_greatest G [.int v0] o (some (.int r)) o := ct_of (by decide +kernel) (Nat.le_of_ble_eq_true rfl) (fun p e s m below meth c ls C P hl => wX6_greatest C  P hl hf)
theorem cf_X6_112 : CallF true RX6 112 yX6_greatest cX6_greatest 1 (some .int) 1 := ⟨wd_989, (by rw [if_pos rfl]; exact wd_990), wd_71, wd_991, by decide, by decide +kernel⟩
theorem dX6_set_0 : Dc cX6_set 0 (.aload_n 0) 1 1 := ⟨by decide +kernel, rfl⟩
theorem dX6_set_1 : Dc cX6_set 1 (.iload_n 1) 1 2 := ⟨by decide +kernel, rfl⟩
theorem dX6_set_2 : Dc cX6_set 2 (.iconst 0) 1 3 := ⟨by decide +kernel, rfl⟩
theorem dX6_set_3 : Dc cX6_set 3 (.bipush 6) 2 5 := ⟨by decide +kernel, rfl⟩
theorem dX6_set_5 : Dc cX6_set 5 (.invokestatic 26) 3 8 := ⟨by decide +kernel, rfl⟩
theorem dX6_set_8 : Dj cX6_set 8 (.ifCond .ne 7) 3 11 (7) 15 := ⟨by decide +kernel, rfl, by decide⟩
theorem dX6_set_11 : Dc cX6_set 11 (.iconst 1) 1 12 := ⟨by decide +kernel, rfl⟩
theorem dX6_set_12 : Dj cX6_set 12 (.goto 20) 3 15 (20) 32 := ⟨by decide +kernel, rfl, by decide⟩
theorem dX6_set_15 : Dc cX6_set 15 (.iload_n 2) 1 16 := ⟨by decide +kernel, rfl⟩
theorem dX6_set_16 : Dc cX6_set 16 (.iconst 0) 1 17 := ⟨by decide +kernel, rfl⟩
theorem dX6_set_17 : Dc cX6_set 17 (.iload_n 1) 1 18 := ⟨by decide +kernel, rfl⟩
theorem dX6_set_18 : Dc cX6_set 18 (.invokestatic 112) 3 21 := ⟨by decide +kernel, rfl⟩
theorem dX6_set_21 : Dc cX6_set 21 (.invokestatic 26) 3 24 := ⟨by decide +kernel, rfl⟩
theorem dX6_set_24 : Dj cX6_set 24 (.ifCond .eq 7) 3 27 (7) 31 := ⟨by decide +kernel, rfl, by decide⟩
theorem dX6_set_27 : Dc cX6_set 27 (.iconst 0) 1 28 := ⟨by decide +kernel, rfl⟩
theorem dX6_set_28 : Dj cX6_set 28 (.goto 4) 3 31 (4) 32 := ⟨by decide +kernel, rfl, by decide⟩
theorem dX6_set_31 : Dc cX6_set 31 (.iconst 2) 1 32 := ⟨by decide +kernel, rfl⟩
theorem dX6_set_32 : Dc cX6_set 32 (.invokevirtual 87) 3 35 := ⟨by decide +kernel, rfl⟩
theorem dX6_set_35 : Dj cX6_set 35 (.ifCond .ne 5) 3 38 (5) 40 := ⟨by decide +kernel, rfl, by decide⟩
theorem dX6_set_38 : Dc cX6_set 38 (.iconst 0) 1 39 := ⟨by decide +kernel, rfl⟩
theorem dX6_set_39 : Dc cX6_set 39 (.ireturn) 1 40 := ⟨by decide +kernel, rfl⟩
theorem dX6_set_40 : Dc cX6_set 40 (.aload_n 0) 1 41 := ⟨by decide +kernel, rfl⟩
theorem dX6_set_41 : Dc cX6_set 41 (.invokevirtual 90) 3 44 := ⟨by decide +kernel, rfl⟩
theorem dX6_set_44 : Dc cX6_set 44 (.aload_n 0) 1 45 := ⟨by decide +kernel, rfl⟩
theorem dX6_set_45 : Dc cX6_set 45 (.getfield 7) 3 48 := ⟨by decide +kernel, rfl⟩
theorem dX6_set_48 : Dc cX6_set 48 (.sipush 235) 3 51 := ⟨by decide +kernel, rfl⟩
theorem dX6_set_51 : Dc cX6_set 51 (.iload_n 1) 1 52 := ⟨by decide +kernel, rfl⟩
theorem dX6_set_52 : Dc cX6_set 52 (.iadd) 1 53 := ⟨by decide +kernel, rfl⟩
theorem dX6_set_53 : Dc cX6_set 53 (.iaload) 1 54 := ⟨by decide +kernel, rfl⟩
theorem dX6_set_54 : Dc cX6_set 54 (.istore_n 3) 1 55 := ⟨by decide +kernel, rfl⟩
theorem dX6_set_55 : Dc cX6_set 55 (.aload_n 0) 1 56 := ⟨by decide +kernel, rfl⟩
theorem dX6_set_56 : Dc cX6_set 56 (.getfield 7) 3 59 := ⟨by decide +kernel, rfl⟩
theorem dX6_set_59 : Dc cX6_set 59 (.sipush 235) 3 62 := ⟨by decide +kernel, rfl⟩
theorem dX6_set_62 : Dc cX6_set 62 (.iload_n 1) 1 63 := ⟨by decide +kernel, rfl⟩
theorem dX6_set_63 : Dc cX6_set 63 (.iadd) 1 64 := ⟨by decide +kernel, rfl⟩
theorem dX6_set_64 : Dc cX6_set 64 (.iload_n 2) 1 65 := ⟨by decide +kernel, rfl⟩
theorem dX6_set_65 : Dc cX6_set 65 (.iastore) 1 66 := ⟨by decide +kernel, rfl⟩
theorem dX6_set_66 : Dc cX6_set 66 (.iload_n 3) 1 67 := ⟨by decide +kernel, rfl⟩
theorem dX6_set_67 : Dc cX6_set 67 (.ireturn) 1 68 := ⟨by decide +kernel, rfl⟩
def F_X6_set (o : OM) (v1 : Int32) (v2 : Int32) : Option (Int32 × OM) := bq (F_X6_in o v1 ((0 : Int32)) ((6 : Int32))) (fun r_1 => bd (fun (s_2 : Int32) => bn (F_X6_holds o s_2) (fun r_3 o_4 => if r_3 = 0 then (some (((0 : Int32)), o_4)) else (bn (F_X6_save o_4) (fun _ o_6 => grd (inB (((235 : Int32)) + v1) 244) (bd (rd o_6 20 0 (((235 : Int32)) + v1).toNatClampNeg) (fun v3_7 : Int32 => grd (inB (((235 : Int32)) + v1) 244) (bd (wr o_6 20 0 (((235 : Int32)) + v1).toNatClampNeg v2) (fun o_8 : OM => some (v3_7, o_8))))))))) (fun k32 => if r_1 = 0 then (k32 ((1 : Int32))) else (bq (F_X6_greatest o v1) (fun r_9 => bq (F_X6_in o v2 ((0 : Int32)) r_9) (fun r_10 => if r_10 = 0 then (k32 ((2 : Int32))) else (k32 ((0 : Int32))))))))
abbrev rmX6_set : Room := { frames := 1, cells := 0, slots := 0, locals := 22 }
set_option maxHeartbeats 4000000 in
set_option maxRecDepth 100000 in
theorem wX6_set {G : Gd} {p : Program} {l : Launch} {e : Env} {s : State} {m : MethodId} {args : Array Value} {below : List Frame} {meth : Method} {c : Code} {o : OM} {H : Heap} {L0 : List Loc} {ls : Array Slot} {r : Int32} {o9 : OM} {v1 : Int32} {v2 : Int32} (C : Cx G RX6 cX6_set 4 (some .int) p s m args meth c)  (P : Hp G o s H L0) (hl : lv_has ls 4 [(0, .ref (rA G 19 0)), (1, .int v1), (2, .int v2)]) (hf : F_X6_set o v1 v2 = some (r, o9)) : W p l e rmX6_set s m args below meth c H L0 0 0 (Qm G (some (.int r)) o9 rmX6_set below args s) (F0 m 0 ls []) := by
  unfold F_X6_set at hf
  refine r_aload_n C hl 0 rfl rfl dX6_set_0 ?_
  refine r_iload_n C hl 1 rfl rfl dX6_set_1 ?_
  refine r_iconst C (v := 0) (by decide) dX6_set_2 ?_
  refine r_bipush C (v := 6) (by decide) dX6_set_3 ?_
  refine r_qSi C P cf_X6_26 (rm := rmX6_in) [.int v1, .int ((0 : Int32)), .int ((6 : Int32))] [.ref (rA G 19 0)] hf (fun _ h => ctX6_in l G o v1 ((0 : Int32)) ((6 : Int32)) h) ⟨rfl, rfl⟩ ⟨Nat.le_of_ble_eq_true rfl, Nat.le_of_ble_eq_true rfl⟩ ⟨Nat.le_of_ble_eq_true rfl, Nat.le_of_ble_eq_true rfl⟩ rfl rfl hl.1 (Nat.le_of_ble_eq_true rfl) dX6_set_5 (fun r_1 H1 L1 P hf => ?_)
  refine r_jn (fun k32 : Int32 → Option (Int32 × OM) => ∀ (s_2 : Int32) H1 L1 ls, Hp G o s H1 L1 → lv_has ls 4 [(0, .ref (rA G 19 0)), (1, .int v1), (2, .int v2)] → k32 s_2 = some (r, o9) → W p l e rmX6_set s m args below meth c H1 L1 0 0 (Qm G (some (.int r)) o9 rmX6_set below args s) (F0 m 32 ls [.int s_2, .ref (rA G 19 0)])) hf ?_ (fun k32 j32 hf => ?_)
  · intro s_2 H1 L1 ls  P hl hf
    refine r_cVi C P cf_X6_87 (rm := rmX6_holds) 19 0 (fun _ _ => ⟨_, rfl⟩) rfl rfl rfl [.int s_2] [] hf (fun _ _ h => ctX6_holds l G o s_2 h) ⟨rfl, rfl⟩ ⟨Nat.le_of_ble_eq_true rfl, Nat.le_of_ble_eq_true rfl⟩ ⟨Nat.le_of_ble_eq_true rfl, Nat.le_of_ble_eq_true rfl⟩ rfl rfl hl.1 (Nat.le_of_ble_eq_true rfl) dX6_set_32 (fun r_3 o_4 H1 L1 P hf => ?_)
    refine r_if_ne C dX6_set_35 hf (fun hf => ?_) (fun hf => ?_)
    · refine r_aload_n C hl 0 rfl rfl dX6_set_40 ?_
      refine r_cVv C P cf_X6_90 (rm := rmX6_save) 19 0 (fun _ _ => ⟨_, rfl⟩) rfl rfl rfl [] [] hf (fun _ _ h => ctX6_save l G o_4 h) ⟨rfl, rfl⟩ ⟨Nat.le_of_ble_eq_true rfl, Nat.le_of_ble_eq_true rfl⟩ ⟨Nat.le_of_ble_eq_true rfl, Nat.le_of_ble_eq_true rfl⟩ rfl rfl hl.1 (Nat.le_of_ble_eq_true rfl) dX6_set_41 (fun _ o_6 H1 L1 P hf => ?_)
      refine r_aload_n C hl 0 rfl rfl dX6_set_44 ?_
      refine gf_19_1 C P rfl wd_880 dX6_set_45 ?_
      refine r_sipush C (v := 235) (by decide) dX6_set_48 ?_
      refine r_iload_n C hl 1 rfl rfl dX6_set_51 ?_
      refine r_iadd2 C dX6_set_52 ?_
      refine r_iald C P (k := 20) (i := 0) (n := 244) (fun _ _ => rfl) rfl dX6_set_53 hf (fun hf => ?_)
      refine r_bdi hf (fun v3_7 hf => ?_)
      refine r_istore_n C [(3, .int v3_7), (0, .ref (rA G 19 0)), (1, .int v1), (2, .int v2)] hl (by decide) rfl rfl dX6_set_54 (fun ls hl => ?_)
      refine r_aload_n C hl 1 rfl rfl dX6_set_55 ?_
      refine gf_19_1 C P rfl wd_880 dX6_set_56 ?_
      refine r_sipush C (v := 235) (by decide) dX6_set_59 ?_
      refine r_iload_n C hl 2 rfl rfl dX6_set_62 ?_
      refine r_iadd2 C dX6_set_63 ?_
      refine r_iload_n C hl 3 rfl rfl dX6_set_64 ?_
      refine r_iast C P (k := 20) (i := 0) (n := 244) (fun _ _ => rfl) rfl dX6_set_65 hf (fun o_8 H1 L1 P hf => ?_)
      refine r_iload_n C hl 0 rfl rfl dX6_set_66 ?_
      exact r_iret C P (rm := rmX6_set) ⟨rfl, rfl⟩ dX6_set_67 hf
    · refine r_iconst C (v := 0) (by decide) dX6_set_38 ?_
      exact r_iret C P (rm := rmX6_set) ⟨rfl, rfl⟩ dX6_set_39 hf
  refine r_if_ne C dX6_set_8 hf (fun hf => ?_) (fun hf => ?_)
  · refine r_iload_n C hl 2 rfl rfl dX6_set_15 ?_
    refine r_iconst C (v := 0) (by decide) dX6_set_16 ?_
    refine r_iload_n C hl 1 rfl rfl dX6_set_17 ?_
    refine r_qSi C P cf_X6_112 (rm := rmX6_greatest) [.int v1] [.int ((0 : Int32)), .int v2, .ref (rA G 19 0)] hf (fun _ h => ctX6_greatest l G o v1 h) ⟨rfl, rfl⟩ ⟨Nat.le_of_ble_eq_true rfl, Nat.le_of_ble_eq_true rfl⟩ ⟨Nat.le_of_ble_eq_true rfl, Nat.le_of_ble_eq_true rfl⟩ rfl rfl hl.1 (Nat.le_of_ble_eq_true rfl) dX6_set_18 (fun r_9 H1 L1 P hf => ?_)
    refine r_qSi C P cf_X6_26 (rm := rmX6_in) [.int v2, .int ((0 : Int32)), .int r_9] [.ref (rA G 19 0)] hf (fun _ h => ctX6_in l G o v2 ((0 : Int32)) r_9 h) ⟨rfl, rfl⟩ ⟨Nat.le_of_ble_eq_true rfl, Nat.le_of_ble_eq_true rfl⟩ ⟨Nat.le_of_ble_eq_true rfl, Nat.le_of_ble_eq_true rfl⟩ rfl rfl hl.1 (Nat.le_of_ble_eq_true rfl) dX6_set_21 (fun r_10 H1 L1 P hf => ?_)
    refine r_if_eq C dX6_set_24 hf (fun hf => ?_) (fun hf => ?_)
    · refine r_iconst C (v := 2) (by decide) dX6_set_31 ?_
      exact j32 ((2 : Int32)) _ _ _ P (lv_sub hl [0, 1, 2] rfl) hf
    · refine r_iconst C (v := 0) (by decide) dX6_set_27 ?_
      refine r_goto C dX6_set_28 ?_
      exact j32 ((0 : Int32)) _ _ _ P (lv_sub hl [0, 1, 2] rfl) hf
  · refine r_iconst C (v := 1) (by decide) dX6_set_11 ?_
    refine r_goto C dX6_set_12 ?_
    exact j32 ((1 : Int32)) _ _ _ P (lv_sub hl [0, 1, 2] rfl) hf
theorem ctX6_set (l : Launch) (G : Gd) (o : OM) (v1 : Int32) (v2 : Int32)  {r : Int32} {o9 : OM} (hf : F_X6_set o v1 v2 = some (r, o9)) : Ct l yX6_set cX6_set 4 (some .int) rmX6_set G [.ref (rA G 19 0), .int v1, .int v2] o (some (.int r)) o9 := ct_of (by decide +kernel) (Nat.le_of_ble_eq_true rfl) (fun p e s m below meth c ls C P hl => wX6_set C  P hl hf)
theorem cf_X6_115 : CallF false RX6 115 yX6_hindrance cX6_hindrance 4 (some .int) 2 := ⟨wd_996, (by rw [if_neg (by decide)]; exact ⟨wd_998, wd_27⟩), wd_71, wd_999, by decide, by decide +kernel⟩
theorem cf_X6_118 : CallF false RX6 118 yX6_measures cX6_measures 6 (some .int) 2 := ⟨wd_1019, (by rw [if_neg (by decide)]; exact ⟨wd_1021, wd_32⟩), wd_71, wd_1022, by decide, by decide +kernel⟩
theorem dX6_measure_0 : Dc cX6_measure 0 (.aload_n 0) 1 1 := ⟨by decide +kernel, rfl⟩
theorem dX6_measure_1 : Dc cX6_measure 1 (.aload_n 0) 1 2 := ⟨by decide +kernel, rfl⟩
theorem dX6_measure_2 : Dc cX6_measure 2 (.iload_n 1) 1 3 := ⟨by decide +kernel, rfl⟩
theorem dX6_measure_3 : Dc cX6_measure 3 (.invokevirtual 96) 3 6 := ⟨by decide +kernel, rfl⟩
theorem dX6_measure_6 : Dj cX6_measure 6 (.ifCond .eq 10) 3 9 (10) 16 := ⟨by decide +kernel, rfl, by decide⟩
theorem dX6_measure_9 : Dc cX6_measure 9 (.iload_n 2) 1 10 := ⟨by decide +kernel, rfl⟩
theorem dX6_measure_10 : Dc cX6_measure 10 (.invokestatic 99) 3 13 := ⟨by decide +kernel, rfl⟩
theorem dX6_measure_13 : Dj cX6_measure 13 (.ifCond .ne 7) 3 16 (7) 20 := ⟨by decide +kernel, rfl, by decide⟩
theorem dX6_measure_16 : Dc cX6_measure 16 (.iconst 1) 1 17 := ⟨by decide +kernel, rfl⟩
theorem dX6_measure_17 : Dj cX6_measure 17 (.goto 17) 3 20 (17) 34 := ⟨by decide +kernel, rfl, by decide⟩
theorem dX6_measure_20 : Dc cX6_measure 20 (.aload_n 0) 1 21 := ⟨by decide +kernel, rfl⟩
theorem dX6_measure_21 : Dc cX6_measure 21 (.iload_n 1) 1 22 := ⟨by decide +kernel, rfl⟩
theorem dX6_measure_22 : Dc cX6_measure 22 (.iload_n 2) 1 23 := ⟨by decide +kernel, rfl⟩
theorem dX6_measure_23 : Dc cX6_measure 23 (.invokevirtual 115) 3 26 := ⟨by decide +kernel, rfl⟩
theorem dX6_measure_26 : Dj cX6_measure 26 (.ifCond .le 7) 3 29 (7) 33 := ⟨by decide +kernel, rfl, by decide⟩
theorem dX6_measure_29 : Dc cX6_measure 29 (.iconst 2) 1 30 := ⟨by decide +kernel, rfl⟩
theorem dX6_measure_30 : Dj cX6_measure 30 (.goto 4) 3 33 (4) 34 := ⟨by decide +kernel, rfl, by decide⟩
theorem dX6_measure_33 : Dc cX6_measure 33 (.iconst 0) 1 34 := ⟨by decide +kernel, rfl⟩
theorem dX6_measure_34 : Dc cX6_measure 34 (.invokevirtual 87) 3 37 := ⟨by decide +kernel, rfl⟩
theorem dX6_measure_37 : Dj cX6_measure 37 (.ifCond .ne 5) 3 40 (5) 42 := ⟨by decide +kernel, rfl, by decide⟩
theorem dX6_measure_40 : Dc cX6_measure 40 (.iconst 0) 1 41 := ⟨by decide +kernel, rfl⟩
theorem dX6_measure_41 : Dc cX6_measure 41 (.ireturn) 1 42 := ⟨by decide +kernel, rfl⟩
theorem dX6_measure_42 : Dc cX6_measure 42 (.aload_n 0) 1 43 := ⟨by decide +kernel, rfl⟩
theorem dX6_measure_43 : Dc cX6_measure 43 (.invokevirtual 90) 3 46 := ⟨by decide +kernel, rfl⟩
theorem dX6_measure_46 : Dc cX6_measure 46 (.aload_n 0) 1 47 := ⟨by decide +kernel, rfl⟩
theorem dX6_measure_47 : Dc cX6_measure 47 (.iload_n 1) 1 48 := ⟨by decide +kernel, rfl⟩
theorem dX6_measure_48 : Dc cX6_measure 48 (.iload_n 2) 1 49 := ⟨by decide +kernel, rfl⟩
theorem dX6_measure_49 : Dc cX6_measure 49 (.invokevirtual 118) 3 52 := ⟨by decide +kernel, rfl⟩
theorem dX6_measure_52 : Dc cX6_measure 52 (.ireturn) 1 53 := ⟨by decide +kernel, rfl⟩
def F_X6_measure (o : OM) (v1 : Int32) (v2 : Int32) : Option (Int32 × OM) := bq (F_X6_isThere o v1) (fun r_1 => bd (fun (s_2 : Int32) => bn (F_X6_holds o s_2) (fun r_3 o_4 => if r_3 = 0 then (some (((0 : Int32)), o_4)) else (bn (F_X6_save o_4) (fun _ o_6 => bn (F_X6_measures o_6 v1 v2) (fun r_7 o_8 => some (r_7, o_8)))))) (fun k34 => if r_1 = 0 then (k34 ((1 : Int32))) else (bq (F_X6_isBath o v2) (fun r_9 => if r_9 = 0 then (k34 ((1 : Int32))) else (bq (F_X6_hindrance o v1 v2) (fun r_10 => if r_10 ≤ 0 then (k34 ((0 : Int32))) else (k34 ((2 : Int32)))))))))
abbrev rmX6_measure : Room := { frames := 5, cells := 0, slots := 0, locals := 117 }
set_option maxHeartbeats 4000000 in
set_option maxRecDepth 100000 in
theorem wX6_measure {G : Gd} {p : Program} {l : Launch} {e : Env} {s : State} {m : MethodId} {args : Array Value} {below : List Frame} {meth : Method} {c : Code} {o : OM} {H : Heap} {L0 : List Loc} {ls : Array Slot} {r : Int32} {o9 : OM} {v1 : Int32} {v2 : Int32} (C : Cx G RX6 cX6_measure 3 (some .int) p s m args meth c)  (P : Hp G o s H L0) (hl : lv_has ls 3 [(0, .ref (rA G 19 0)), (1, .int v1), (2, .int v2)]) (hf : F_X6_measure o v1 v2 = some (r, o9)) : W p l e rmX6_measure s m args below meth c H L0 0 0 (Qm G (some (.int r)) o9 rmX6_measure below args s) (F0 m 0 ls []) := by
  unfold F_X6_measure at hf
  refine r_aload_n C hl 0 rfl rfl dX6_measure_0 ?_
  refine r_aload_n C hl 0 rfl rfl dX6_measure_1 ?_
  refine r_iload_n C hl 1 rfl rfl dX6_measure_2 ?_
  refine r_qVi C P cf_X6_96 (rm := rmX6_isThere) 19 0 (fun _ _ => ⟨_, rfl⟩) rfl rfl rfl [.int v1] [.ref (rA G 19 0)] hf (fun _ h => ctX6_isThere l G o v1 h) ⟨rfl, rfl⟩ ⟨Nat.le_of_ble_eq_true rfl, Nat.le_of_ble_eq_true rfl⟩ ⟨Nat.le_of_ble_eq_true rfl, Nat.le_of_ble_eq_true rfl⟩ rfl rfl hl.1 (Nat.le_of_ble_eq_true rfl) dX6_measure_3 (fun r_1 H1 L1 P hf => ?_)
  refine r_jn (fun k34 : Int32 → Option (Int32 × OM) => ∀ (s_2 : Int32) H1 L1 ls, Hp G o s H1 L1 → lv_has ls 3 [(0, .ref (rA G 19 0)), (1, .int v1), (2, .int v2)] → k34 s_2 = some (r, o9) → W p l e rmX6_measure s m args below meth c H1 L1 0 0 (Qm G (some (.int r)) o9 rmX6_measure below args s) (F0 m 34 ls [.int s_2, .ref (rA G 19 0)])) hf ?_ (fun k34 j34 hf => ?_)
  · intro s_2 H1 L1 ls  P hl hf
    refine r_cVi C P cf_X6_87 (rm := rmX6_holds) 19 0 (fun _ _ => ⟨_, rfl⟩) rfl rfl rfl [.int s_2] [] hf (fun _ _ h => ctX6_holds l G o s_2 h) ⟨rfl, rfl⟩ ⟨Nat.le_of_ble_eq_true rfl, Nat.le_of_ble_eq_true rfl⟩ ⟨Nat.le_of_ble_eq_true rfl, Nat.le_of_ble_eq_true rfl⟩ rfl rfl hl.1 (Nat.le_of_ble_eq_true rfl) dX6_measure_34 (fun r_3 o_4 H1 L1 P hf => ?_)
    refine r_if_ne C dX6_measure_37 hf (fun hf => ?_) (fun hf => ?_)
    · refine r_aload_n C hl 0 rfl rfl dX6_measure_42 ?_
      refine r_cVv C P cf_X6_90 (rm := rmX6_save) 19 0 (fun _ _ => ⟨_, rfl⟩) rfl rfl rfl [] [] hf (fun _ _ h => ctX6_save l G o_4 h) ⟨rfl, rfl⟩ ⟨Nat.le_of_ble_eq_true rfl, Nat.le_of_ble_eq_true rfl⟩ ⟨Nat.le_of_ble_eq_true rfl, Nat.le_of_ble_eq_true rfl⟩ rfl rfl hl.1 (Nat.le_of_ble_eq_true rfl) dX6_measure_43 (fun _ o_6 H1 L1 P hf => ?_)
      refine r_aload_n C hl 0 rfl rfl dX6_measure_46 ?_
      refine r_iload_n C hl 1 rfl rfl dX6_measure_47 ?_
      refine r_iload_n C hl 2 rfl rfl dX6_measure_48 ?_
      refine r_cVi C P cf_X6_118 (rm := rmX6_measures) 19 0 (fun _ _ => ⟨_, rfl⟩) rfl rfl rfl [.int v1, .int v2] [] hf (fun _ _ h => ctX6_measures l G o_6 v1 v2 h) ⟨rfl, rfl⟩ ⟨Nat.le_of_ble_eq_true rfl, Nat.le_of_ble_eq_true rfl⟩ ⟨Nat.le_of_ble_eq_true rfl, Nat.le_of_ble_eq_true rfl⟩ rfl rfl hl.1 (Nat.le_of_ble_eq_true rfl) dX6_measure_49 (fun r_7 o_8 H1 L1 P hf => ?_)
      exact r_iret C P (rm := rmX6_measure) ⟨rfl, rfl⟩ dX6_measure_52 hf
    · refine r_iconst C (v := 0) (by decide) dX6_measure_40 ?_
      exact r_iret C P (rm := rmX6_measure) ⟨rfl, rfl⟩ dX6_measure_41 hf
  refine r_if_eq C dX6_measure_6 hf (fun hf => ?_) (fun hf => ?_)
  · refine r_iconst C (v := 1) (by decide) dX6_measure_16 ?_
    refine r_goto C dX6_measure_17 ?_
    exact j34 ((1 : Int32)) _ _ _ P (lv_sub hl [0, 1, 2] rfl) hf
  · refine r_iload_n C hl 2 rfl rfl dX6_measure_9 ?_
    refine r_qSi C P cf_X6_99 (rm := rmX6_isBath) [.int v2] [.ref (rA G 19 0)] hf (fun _ h => ctX6_isBath l G o v2 h) ⟨rfl, rfl⟩ ⟨Nat.le_of_ble_eq_true rfl, Nat.le_of_ble_eq_true rfl⟩ ⟨Nat.le_of_ble_eq_true rfl, Nat.le_of_ble_eq_true rfl⟩ rfl rfl hl.1 (Nat.le_of_ble_eq_true rfl) dX6_measure_10 (fun r_9 H1 L1 P hf => ?_)
    refine r_if_ne C dX6_measure_13 hf (fun hf => ?_) (fun hf => ?_)
    · refine r_aload_n C hl 0 rfl rfl dX6_measure_20 ?_
      refine r_iload_n C hl 1 rfl rfl dX6_measure_21 ?_
      refine r_iload_n C hl 2 rfl rfl dX6_measure_22 ?_
      refine r_qVi C P cf_X6_115 (rm := rmX6_hindrance) 19 0 (fun _ _ => ⟨_, rfl⟩) rfl rfl rfl [.int v1, .int v2] [.ref (rA G 19 0)] hf (fun _ h => ctX6_hindrance l G o v1 v2 h) ⟨rfl, rfl⟩ ⟨Nat.le_of_ble_eq_true rfl, Nat.le_of_ble_eq_true rfl⟩ ⟨Nat.le_of_ble_eq_true rfl, Nat.le_of_ble_eq_true rfl⟩ rfl rfl hl.1 (Nat.le_of_ble_eq_true rfl) dX6_measure_23 (fun r_10 H1 L1 P hf => ?_)
      refine r_if_le C dX6_measure_26 hf (fun hf => ?_) (fun hf => ?_)
      · refine r_iconst C (v := 0) (by decide) dX6_measure_33 ?_
        exact j34 ((0 : Int32)) _ _ _ P (lv_sub hl [0, 1, 2] rfl) hf
      · refine r_iconst C (v := 2) (by decide) dX6_measure_29 ?_
        refine r_goto C dX6_measure_30 ?_
        exact j34 ((2 : Int32)) _ _ _ P (lv_sub hl [0, 1, 2] rfl) hf
    · refine r_iconst C (v := 1) (by decide) dX6_measure_16 ?_
      refine r_goto C dX6_measure_17 ?_
      exact j34 ((1 : Int32)) _ _ _ P (lv_sub hl [0, 1, 2] rfl) hf
theorem ctX6_measure (l : Launch) (G : Gd) (o : OM) (v1 : Int32) (v2 : Int32)  {r : Int32} {o9 : OM} (hf : F_X6_measure o v1 v2 = some (r, o9)) : Ct l yX6_measure cX6_measure 3 (some .int) rmX6_measure G [.ref (rA G 19 0), .int v1, .int v2] o (some (.int r)) o9 := ct_of (by decide +kernel) (Nat.le_of_ble_eq_true rfl) (fun p e s m below meth c ls C P hl => wX6_measure C  P hl hf)
theorem dX6_forget_0 : Dc cX6_forget 0 (.aload_n 0) 1 1 := ⟨by decide +kernel, rfl⟩
theorem dX6_forget_1 : Dc cX6_forget 1 (.aload_n 0) 1 2 := ⟨by decide +kernel, rfl⟩
theorem dX6_forget_2 : Dc cX6_forget 2 (.iload_n 1) 1 3 := ⟨by decide +kernel, rfl⟩
theorem dX6_forget_3 : Dc cX6_forget 3 (.invokevirtual 96) 3 6 := ⟨by decide +kernel, rfl⟩
theorem dX6_forget_6 : Dj cX6_forget 6 (.ifCond .ne 7) 3 9 (7) 13 := ⟨by decide +kernel, rfl, by decide⟩
theorem dX6_forget_9 : Dc cX6_forget 9 (.iconst 1) 1 10 := ⟨by decide +kernel, rfl⟩
theorem dX6_forget_10 : Dj cX6_forget 10 (.goto 15) 3 13 (15) 25 := ⟨by decide +kernel, rfl, by decide⟩
theorem dX6_forget_13 : Dc cX6_forget 13 (.iload_n 2) 1 14 := ⟨by decide +kernel, rfl⟩
theorem dX6_forget_14 : Dc cX6_forget 14 (.invokestatic 102) 3 17 := ⟨by decide +kernel, rfl⟩
theorem dX6_forget_17 : Dj cX6_forget 17 (.ifCond .eq 7) 3 20 (7) 24 := ⟨by decide +kernel, rfl, by decide⟩
theorem dX6_forget_20 : Dc cX6_forget 20 (.iconst 0) 1 21 := ⟨by decide +kernel, rfl⟩
theorem dX6_forget_21 : Dj cX6_forget 21 (.goto 4) 3 24 (4) 25 := ⟨by decide +kernel, rfl, by decide⟩
theorem dX6_forget_24 : Dc cX6_forget 24 (.iconst 2) 1 25 := ⟨by decide +kernel, rfl⟩
theorem dX6_forget_25 : Dc cX6_forget 25 (.invokevirtual 87) 3 28 := ⟨by decide +kernel, rfl⟩
theorem dX6_forget_28 : Dj cX6_forget 28 (.ifCond .ne 5) 3 31 (5) 33 := ⟨by decide +kernel, rfl, by decide⟩
theorem dX6_forget_31 : Dc cX6_forget 31 (.iconst 0) 1 32 := ⟨by decide +kernel, rfl⟩
theorem dX6_forget_32 : Dc cX6_forget 32 (.ireturn) 1 33 := ⟨by decide +kernel, rfl⟩
theorem dX6_forget_33 : Dc cX6_forget 33 (.aload_n 0) 1 34 := ⟨by decide +kernel, rfl⟩
theorem dX6_forget_34 : Dc cX6_forget 34 (.invokevirtual 90) 3 37 := ⟨by decide +kernel, rfl⟩
theorem dX6_forget_37 : Dc cX6_forget 37 (.aload_n 0) 1 38 := ⟨by decide +kernel, rfl⟩
theorem dX6_forget_38 : Dc cX6_forget 38 (.iload_n 1) 1 39 := ⟨by decide +kernel, rfl⟩
theorem dX6_forget_39 : Dc cX6_forget 39 (.iload_n 2) 1 40 := ⟨by decide +kernel, rfl⟩
theorem dX6_forget_40 : Dc cX6_forget 40 (.invokevirtual 56) 3 43 := ⟨by decide +kernel, rfl⟩
theorem dX6_forget_43 : Dc cX6_forget 43 (.ireturn) 1 44 := ⟨by decide +kernel, rfl⟩
def F_X6_forget (o : OM) (v1 : Int32) (v2 : Int32) : Option (Int32 × OM) := bq (F_X6_isThere o v1) (fun r_1 => bd (fun (s_2 : Int32) => bn (F_X6_holds o s_2) (fun r_3 o_4 => if r_3 = 0 then (some (((0 : Int32)), o_4)) else (bn (F_X6_save o_4) (fun _ o_6 => bn (F_X6_drops o_6 v1 v2) (fun r_7 o_8 => some (r_7, o_8)))))) (fun k25 => if r_1 = 0 then (k25 ((1 : Int32))) else (bq (F_X6_isDegree o v2) (fun r_9 => if r_9 = 0 then (k25 ((2 : Int32))) else (k25 ((0 : Int32)))))))
abbrev rmX6_forget : Room := { frames := 4, cells := 0, slots := 0, locals := 92 }
set_option maxHeartbeats 4000000 in
set_option maxRecDepth 100000 in
theorem wX6_forget {G : Gd} {p : Program} {l : Launch} {e : Env} {s : State} {m : MethodId} {args : Array Value} {below : List Frame} {meth : Method} {c : Code} {o : OM} {H : Heap} {L0 : List Loc} {ls : Array Slot} {r : Int32} {o9 : OM} {v1 : Int32} {v2 : Int32} (C : Cx G RX6 cX6_forget 3 (some .int) p s m args meth c)  (P : Hp G o s H L0) (hl : lv_has ls 3 [(0, .ref (rA G 19 0)), (1, .int v1), (2, .int v2)]) (hf : F_X6_forget o v1 v2 = some (r, o9)) : W p l e rmX6_forget s m args below meth c H L0 0 0 (Qm G (some (.int r)) o9 rmX6_forget below args s) (F0 m 0 ls []) := by
  unfold F_X6_forget at hf
  refine r_aload_n C hl 0 rfl rfl dX6_forget_0 ?_
  refine r_aload_n C hl 0 rfl rfl dX6_forget_1 ?_
  refine r_iload_n C hl 1 rfl rfl dX6_forget_2 ?_
  refine r_qVi C P cf_X6_96 (rm := rmX6_isThere) 19 0 (fun _ _ => ⟨_, rfl⟩) rfl rfl rfl [.int v1] [.ref (rA G 19 0)] hf (fun _ h => ctX6_isThere l G o v1 h) ⟨rfl, rfl⟩ ⟨Nat.le_of_ble_eq_true rfl, Nat.le_of_ble_eq_true rfl⟩ ⟨Nat.le_of_ble_eq_true rfl, Nat.le_of_ble_eq_true rfl⟩ rfl rfl hl.1 (Nat.le_of_ble_eq_true rfl) dX6_forget_3 (fun r_1 H1 L1 P hf => ?_)
  refine r_jn (fun k25 : Int32 → Option (Int32 × OM) => ∀ (s_2 : Int32) H1 L1 ls, Hp G o s H1 L1 → lv_has ls 3 [(0, .ref (rA G 19 0)), (1, .int v1), (2, .int v2)] → k25 s_2 = some (r, o9) → W p l e rmX6_forget s m args below meth c H1 L1 0 0 (Qm G (some (.int r)) o9 rmX6_forget below args s) (F0 m 25 ls [.int s_2, .ref (rA G 19 0)])) hf ?_ (fun k25 j25 hf => ?_)
  · intro s_2 H1 L1 ls  P hl hf
    refine r_cVi C P cf_X6_87 (rm := rmX6_holds) 19 0 (fun _ _ => ⟨_, rfl⟩) rfl rfl rfl [.int s_2] [] hf (fun _ _ h => ctX6_holds l G o s_2 h) ⟨rfl, rfl⟩ ⟨Nat.le_of_ble_eq_true rfl, Nat.le_of_ble_eq_true rfl⟩ ⟨Nat.le_of_ble_eq_true rfl, Nat.le_of_ble_eq_true rfl⟩ rfl rfl hl.1 (Nat.le_of_ble_eq_true rfl) dX6_forget_25 (fun r_3 o_4 H1 L1 P hf => ?_)
    refine r_if_ne C dX6_forget_28 hf (fun hf => ?_) (fun hf => ?_)
    · refine r_aload_n C hl 0 rfl rfl dX6_forget_33 ?_
      refine r_cVv C P cf_X6_90 (rm := rmX6_save) 19 0 (fun _ _ => ⟨_, rfl⟩) rfl rfl rfl [] [] hf (fun _ _ h => ctX6_save l G o_4 h) ⟨rfl, rfl⟩ ⟨Nat.le_of_ble_eq_true rfl, Nat.le_of_ble_eq_true rfl⟩ ⟨Nat.le_of_ble_eq_true rfl, Nat.le_of_ble_eq_true rfl⟩ rfl rfl hl.1 (Nat.le_of_ble_eq_true rfl) dX6_forget_34 (fun _ o_6 H1 L1 P hf => ?_)
      refine r_aload_n C hl 0 rfl rfl dX6_forget_37 ?_
      refine r_iload_n C hl 1 rfl rfl dX6_forget_38 ?_
      refine r_iload_n C hl 2 rfl rfl dX6_forget_39 ?_
      refine r_cVi C P cf_X6_56 (rm := rmX6_drops) 19 0 (fun _ _ => ⟨_, rfl⟩) rfl rfl rfl [.int v1, .int v2] [] hf (fun _ _ h => ctX6_drops l G o_6 v1 v2 h) ⟨rfl, rfl⟩ ⟨Nat.le_of_ble_eq_true rfl, Nat.le_of_ble_eq_true rfl⟩ ⟨Nat.le_of_ble_eq_true rfl, Nat.le_of_ble_eq_true rfl⟩ rfl rfl hl.1 (Nat.le_of_ble_eq_true rfl) dX6_forget_40 (fun r_7 o_8 H1 L1 P hf => ?_)
      exact r_iret C P (rm := rmX6_forget) ⟨rfl, rfl⟩ dX6_forget_43 hf
    · refine r_iconst C (v := 0) (by decide) dX6_forget_31 ?_
      exact r_iret C P (rm := rmX6_forget) ⟨rfl, rfl⟩ dX6_forget_32 hf
  refine r_if_ne C dX6_forget_6 hf (fun hf => ?_) (fun hf => ?_)
  · refine r_iload_n C hl 2 rfl rfl dX6_forget_13 ?_
    refine r_qSi C P cf_X6_102 (rm := rmX6_isDegree) [.int v2] [.ref (rA G 19 0)] hf (fun _ h => ctX6_isDegree l G o v2 h) ⟨rfl, rfl⟩ ⟨Nat.le_of_ble_eq_true rfl, Nat.le_of_ble_eq_true rfl⟩ ⟨Nat.le_of_ble_eq_true rfl, Nat.le_of_ble_eq_true rfl⟩ rfl rfl hl.1 (Nat.le_of_ble_eq_true rfl) dX6_forget_14 (fun r_9 H1 L1 P hf => ?_)
    refine r_if_eq C dX6_forget_17 hf (fun hf => ?_) (fun hf => ?_)
    · refine r_iconst C (v := 2) (by decide) dX6_forget_24 ?_
      exact j25 ((2 : Int32)) _ _ _ P (lv_sub hl [0, 1, 2] rfl) hf
    · refine r_iconst C (v := 0) (by decide) dX6_forget_20 ?_
      refine r_goto C dX6_forget_21 ?_
      exact j25 ((0 : Int32)) _ _ _ P (lv_sub hl [0, 1, 2] rfl) hf
  · refine r_iconst C (v := 1) (by decide) dX6_forget_9 ?_
    refine r_goto C dX6_forget_10 ?_
    exact j25 ((1 : Int32)) _ _ _ P (lv_sub hl [0, 1, 2] rfl) hf
theorem ctX6_forget (l : Launch) (G : Gd) (o : OM) (v1 : Int32) (v2 : Int32)  {r : Int32} {o9 : OM} (hf : F_X6_forget o v1 v2 = some (r, o9)) : Ct l yX6_forget cX6_forget 3 (some .int) rmX6_forget G [.ref (rA G 19 0), .int v1, .int v2] o (some (.int r)) o9 := ct_of (by decide +kernel) (Nat.le_of_ble_eq_true rfl) (fun p e s m below meth c ls C P hl => wX6_forget C  P hl hf)
theorem cf_X6_121 : CallF false RX6 121 yX6_refusal cX6_refusal 2 (some .int) 1 := ⟨wd_1035, (by rw [if_neg (by decide)]; exact ⟨wd_1037, wd_34⟩), wd_71, wd_1038, by decide, by decide +kernel⟩
theorem cf_X6_124 : CallF false RX6 124 yX6_seals cX6_seals 2 (some .int) 1 := ⟨wd_1067, (by rw [if_neg (by decide)]; exact ⟨wd_1069, wd_42⟩), wd_71, wd_1070, by decide, by decide +kernel⟩
theorem dX6_paper_0 : Dc cX6_paper 0 (.aload_n 0) 1 1 := ⟨by decide +kernel, rfl⟩
theorem dX6_paper_1 : Dc cX6_paper 1 (.aload_n 0) 1 2 := ⟨by decide +kernel, rfl⟩
theorem dX6_paper_2 : Dc cX6_paper 2 (.iload_n 1) 1 3 := ⟨by decide +kernel, rfl⟩
theorem dX6_paper_3 : Dc cX6_paper 3 (.invokevirtual 96) 3 6 := ⟨by decide +kernel, rfl⟩
theorem dX6_paper_6 : Dj cX6_paper 6 (.ifCond .ne 7) 3 9 (7) 13 := ⟨by decide +kernel, rfl, by decide⟩
theorem dX6_paper_9 : Dc cX6_paper 9 (.iconst 1) 1 10 := ⟨by decide +kernel, rfl⟩
theorem dX6_paper_10 : Dj cX6_paper 10 (.goto 16) 3 13 (16) 26 := ⟨by decide +kernel, rfl, by decide⟩
theorem dX6_paper_13 : Dc cX6_paper 13 (.aload_n 0) 1 14 := ⟨by decide +kernel, rfl⟩
theorem dX6_paper_14 : Dc cX6_paper 14 (.iload_n 1) 1 15 := ⟨by decide +kernel, rfl⟩
theorem dX6_paper_15 : Dc cX6_paper 15 (.invokevirtual 121) 3 18 := ⟨by decide +kernel, rfl⟩
theorem dX6_paper_18 : Dj cX6_paper 18 (.ifCond .le 7) 3 21 (7) 25 := ⟨by decide +kernel, rfl, by decide⟩
theorem dX6_paper_21 : Dc cX6_paper 21 (.iconst 2) 1 22 := ⟨by decide +kernel, rfl⟩
theorem dX6_paper_22 : Dj cX6_paper 22 (.goto 4) 3 25 (4) 26 := ⟨by decide +kernel, rfl, by decide⟩
theorem dX6_paper_25 : Dc cX6_paper 25 (.iconst 0) 1 26 := ⟨by decide +kernel, rfl⟩
theorem dX6_paper_26 : Dc cX6_paper 26 (.invokevirtual 87) 3 29 := ⟨by decide +kernel, rfl⟩
theorem dX6_paper_29 : Dj cX6_paper 29 (.ifCond .ne 5) 3 32 (5) 34 := ⟨by decide +kernel, rfl, by decide⟩
theorem dX6_paper_32 : Dc cX6_paper 32 (.iconst 0) 1 33 := ⟨by decide +kernel, rfl⟩
theorem dX6_paper_33 : Dc cX6_paper 33 (.ireturn) 1 34 := ⟨by decide +kernel, rfl⟩
theorem dX6_paper_34 : Dc cX6_paper 34 (.aload_n 0) 1 35 := ⟨by decide +kernel, rfl⟩
theorem dX6_paper_35 : Dc cX6_paper 35 (.invokevirtual 90) 3 38 := ⟨by decide +kernel, rfl⟩
theorem dX6_paper_38 : Dc cX6_paper 38 (.aload_n 0) 1 39 := ⟨by decide +kernel, rfl⟩
theorem dX6_paper_39 : Dc cX6_paper 39 (.iload_n 1) 1 40 := ⟨by decide +kernel, rfl⟩
theorem dX6_paper_40 : Dc cX6_paper 40 (.invokevirtual 124) 3 43 := ⟨by decide +kernel, rfl⟩
theorem dX6_paper_43 : Dc cX6_paper 43 (.ireturn) 1 44 := ⟨by decide +kernel, rfl⟩
def F_X6_paper (o : OM) (v1 : Int32) : Option (Int32 × OM) := bq (F_X6_isThere o v1) (fun r_1 => bd (fun (s_2 : Int32) => bn (F_X6_holds o s_2) (fun r_3 o_4 => if r_3 = 0 then (some (((0 : Int32)), o_4)) else (bn (F_X6_save o_4) (fun _ o_6 => bn (F_X6_seals o_6 v1) (fun r_7 o_8 => some (r_7, o_8)))))) (fun k26 => if r_1 = 0 then (k26 ((1 : Int32))) else (bq (F_X6_refusal o v1) (fun r_9 => if r_9 ≤ 0 then (k26 ((0 : Int32))) else (k26 ((2 : Int32)))))))
abbrev rmX6_paper : Room := { frames := 7, cells := 0, slots := 0, locals := 168 }
set_option maxHeartbeats 4000000 in
set_option maxRecDepth 100000 in
theorem wX6_paper {G : Gd} {p : Program} {l : Launch} {e : Env} {s : State} {m : MethodId} {args : Array Value} {below : List Frame} {meth : Method} {c : Code} {o : OM} {H : Heap} {L0 : List Loc} {ls : Array Slot} {r : Int32} {o9 : OM} {v1 : Int32} (C : Cx G RX6 cX6_paper 2 (some .int) p s m args meth c)  (P : Hp G o s H L0) (hl : lv_has ls 2 [(0, .ref (rA G 19 0)), (1, .int v1)]) (hf : F_X6_paper o v1 = some (r, o9)) : W p l e rmX6_paper s m args below meth c H L0 0 0 (Qm G (some (.int r)) o9 rmX6_paper below args s) (F0 m 0 ls []) := by
  unfold F_X6_paper at hf
  refine r_aload_n C hl 0 rfl rfl dX6_paper_0 ?_
  refine r_aload_n C hl 0 rfl rfl dX6_paper_1 ?_
  refine r_iload_n C hl 1 rfl rfl dX6_paper_2 ?_
  refine r_qVi C P cf_X6_96 (rm := rmX6_isThere) 19 0 (fun _ _ => ⟨_, rfl⟩) rfl rfl rfl [.int v1] [.ref (rA G 19 0)] hf (fun _ h => ctX6_isThere l G o v1 h) ⟨rfl, rfl⟩ ⟨Nat.le_of_ble_eq_true rfl, Nat.le_of_ble_eq_true rfl⟩ ⟨Nat.le_of_ble_eq_true rfl, Nat.le_of_ble_eq_true rfl⟩ rfl rfl hl.1 (Nat.le_of_ble_eq_true rfl) dX6_paper_3 (fun r_1 H1 L1 P hf => ?_)
  refine r_jn (fun k26 : Int32 → Option (Int32 × OM) => ∀ (s_2 : Int32) H1 L1 ls, Hp G o s H1 L1 → lv_has ls 2 [(0, .ref (rA G 19 0)), (1, .int v1)] → k26 s_2 = some (r, o9) → W p l e rmX6_paper s m args below meth c H1 L1 0 0 (Qm G (some (.int r)) o9 rmX6_paper below args s) (F0 m 26 ls [.int s_2, .ref (rA G 19 0)])) hf ?_ (fun k26 j26 hf => ?_)
  · intro s_2 H1 L1 ls  P hl hf
    refine r_cVi C P cf_X6_87 (rm := rmX6_holds) 19 0 (fun _ _ => ⟨_, rfl⟩) rfl rfl rfl [.int s_2] [] hf (fun _ _ h => ctX6_holds l G o s_2 h) ⟨rfl, rfl⟩ ⟨Nat.le_of_ble_eq_true rfl, Nat.le_of_ble_eq_true rfl⟩ ⟨Nat.le_of_ble_eq_true rfl, Nat.le_of_ble_eq_true rfl⟩ rfl rfl hl.1 (Nat.le_of_ble_eq_true rfl) dX6_paper_26 (fun r_3 o_4 H1 L1 P hf => ?_)
    refine r_if_ne C dX6_paper_29 hf (fun hf => ?_) (fun hf => ?_)
    · refine r_aload_n C hl 0 rfl rfl dX6_paper_34 ?_
      refine r_cVv C P cf_X6_90 (rm := rmX6_save) 19 0 (fun _ _ => ⟨_, rfl⟩) rfl rfl rfl [] [] hf (fun _ _ h => ctX6_save l G o_4 h) ⟨rfl, rfl⟩ ⟨Nat.le_of_ble_eq_true rfl, Nat.le_of_ble_eq_true rfl⟩ ⟨Nat.le_of_ble_eq_true rfl, Nat.le_of_ble_eq_true rfl⟩ rfl rfl hl.1 (Nat.le_of_ble_eq_true rfl) dX6_paper_35 (fun _ o_6 H1 L1 P hf => ?_)
      refine r_aload_n C hl 0 rfl rfl dX6_paper_38 ?_
      refine r_iload_n C hl 1 rfl rfl dX6_paper_39 ?_
      refine r_cVi C P cf_X6_124 (rm := rmX6_seals) 19 0 (fun _ _ => ⟨_, rfl⟩) rfl rfl rfl [.int v1] [] hf (fun _ _ h => ctX6_seals l G o_6 v1 h) ⟨rfl, rfl⟩ ⟨Nat.le_of_ble_eq_true rfl, Nat.le_of_ble_eq_true rfl⟩ ⟨Nat.le_of_ble_eq_true rfl, Nat.le_of_ble_eq_true rfl⟩ rfl rfl hl.1 (Nat.le_of_ble_eq_true rfl) dX6_paper_40 (fun r_7 o_8 H1 L1 P hf => ?_)
      exact r_iret C P (rm := rmX6_paper) ⟨rfl, rfl⟩ dX6_paper_43 hf
    · refine r_iconst C (v := 0) (by decide) dX6_paper_32 ?_
      exact r_iret C P (rm := rmX6_paper) ⟨rfl, rfl⟩ dX6_paper_33 hf
  refine r_if_ne C dX6_paper_6 hf (fun hf => ?_) (fun hf => ?_)
  · refine r_aload_n C hl 0 rfl rfl dX6_paper_13 ?_
    refine r_iload_n C hl 1 rfl rfl dX6_paper_14 ?_
    refine r_qVi C P cf_X6_121 (rm := rmX6_refusal) 19 0 (fun _ _ => ⟨_, rfl⟩) rfl rfl rfl [.int v1] [.ref (rA G 19 0)] hf (fun _ h => ctX6_refusal l G o v1 h) ⟨rfl, rfl⟩ ⟨Nat.le_of_ble_eq_true rfl, Nat.le_of_ble_eq_true rfl⟩ ⟨Nat.le_of_ble_eq_true rfl, Nat.le_of_ble_eq_true rfl⟩ rfl rfl hl.1 (Nat.le_of_ble_eq_true rfl) dX6_paper_15 (fun r_9 H1 L1 P hf => ?_)
    refine r_if_le C dX6_paper_18 hf (fun hf => ?_) (fun hf => ?_)
    · refine r_iconst C (v := 0) (by decide) dX6_paper_25 ?_
      exact j26 ((0 : Int32)) _ _ _ P (lv_sub hl [0, 1] rfl) hf
    · refine r_iconst C (v := 2) (by decide) dX6_paper_21 ?_
      refine r_goto C dX6_paper_22 ?_
      exact j26 ((2 : Int32)) _ _ _ P (lv_sub hl [0, 1] rfl) hf
  · refine r_iconst C (v := 1) (by decide) dX6_paper_9 ?_
    refine r_goto C dX6_paper_10 ?_
    exact j26 ((1 : Int32)) _ _ _ P (lv_sub hl [0, 1] rfl) hf
theorem ctX6_paper (l : Launch) (G : Gd) (o : OM) (v1 : Int32)  {r : Int32} {o9 : OM} (hf : F_X6_paper o v1 = some (r, o9)) : Ct l yX6_paper cX6_paper 2 (some .int) rmX6_paper G [.ref (rA G 19 0), .int v1] o (some (.int r)) o9 := ct_of (by decide +kernel) (Nat.le_of_ble_eq_true rfl) (fun p e s m below meth c ls C P hl => wX6_paper C  P hl hf)
theorem dX6_append_0 : Dc cX6_append 0 (.aload_n 0) 1 1 := ⟨by decide +kernel, rfl⟩
theorem dX6_append_1 : Dc cX6_append 1 (.iload_n 1) 1 2 := ⟨by decide +kernel, rfl⟩
theorem dX6_append_2 : Dc cX6_append 2 (.bipush 33) 2 4 := ⟨by decide +kernel, rfl⟩
theorem dX6_append_4 : Dc cX6_append 4 (.bipush 126) 2 6 := ⟨by decide +kernel, rfl⟩
theorem dX6_append_6 : Dc cX6_append 6 (.invokestatic 26) 3 9 := ⟨by decide +kernel, rfl⟩
theorem dX6_append_9 : Dj cX6_append 9 (.ifCond .ne 7) 3 12 (7) 16 := ⟨by decide +kernel, rfl, by decide⟩
theorem dX6_append_12 : Dc cX6_append 12 (.iconst 1) 1 13 := ⟨by decide +kernel, rfl⟩
theorem dX6_append_13 : Dj cX6_append 13 (.goto 17) 3 16 (17) 30 := ⟨by decide +kernel, rfl, by decide⟩
theorem dX6_append_16 : Dc cX6_append 16 (.aload_n 0) 1 17 := ⟨by decide +kernel, rfl⟩
theorem dX6_append_17 : Dc cX6_append 17 (.getfield 127) 3 20 := ⟨by decide +kernel, rfl⟩
theorem dX6_append_20 : Dc cX6_append 20 (.bipush 60) 2 22 := ⟨by decide +kernel, rfl⟩
theorem dX6_append_22 : Dj cX6_append 22 (.if_icmp .ne 7) 3 25 (7) 29 := ⟨by decide +kernel, rfl, by decide⟩
theorem dX6_append_25 : Dc cX6_append 25 (.iconst 2) 1 26 := ⟨by decide +kernel, rfl⟩
theorem dX6_append_26 : Dj cX6_append 26 (.goto 4) 3 29 (4) 30 := ⟨by decide +kernel, rfl, by decide⟩
theorem dX6_append_29 : Dc cX6_append 29 (.iconst 0) 1 30 := ⟨by decide +kernel, rfl⟩
theorem dX6_append_30 : Dc cX6_append 30 (.invokevirtual 87) 3 33 := ⟨by decide +kernel, rfl⟩
theorem dX6_append_33 : Dj cX6_append 33 (.ifCond .ne 5) 3 36 (5) 38 := ⟨by decide +kernel, rfl, by decide⟩
theorem dX6_append_36 : Dc cX6_append 36 (.iconst 0) 1 37 := ⟨by decide +kernel, rfl⟩
theorem dX6_append_37 : Dc cX6_append 37 (.ireturn) 1 38 := ⟨by decide +kernel, rfl⟩
theorem dX6_append_38 : Dc cX6_append 38 (.aload_n 0) 1 39 := ⟨by decide +kernel, rfl⟩
theorem dX6_append_39 : Dc cX6_append 39 (.getfield 19) 3 42 := ⟨by decide +kernel, rfl⟩
theorem dX6_append_42 : Dc cX6_append 42 (.aload_n 0) 1 43 := ⟨by decide +kernel, rfl⟩
theorem dX6_append_43 : Dc cX6_append 43 (.getfield 127) 3 46 := ⟨by decide +kernel, rfl⟩
theorem dX6_append_46 : Dc cX6_append 46 (.iload_n 1) 1 47 := ⟨by decide +kernel, rfl⟩
theorem dX6_append_47 : Dc cX6_append 47 (.iastore) 1 48 := ⟨by decide +kernel, rfl⟩
theorem dX6_append_48 : Dc cX6_append 48 (.aload_n 0) 1 49 := ⟨by decide +kernel, rfl⟩
theorem dX6_append_49 : Dc cX6_append 49 (.dup) 1 50 := ⟨by decide +kernel, rfl⟩
theorem dX6_append_50 : Dc cX6_append 50 (.getfield 127) 3 53 := ⟨by decide +kernel, rfl⟩
theorem dX6_append_53 : Dc cX6_append 53 (.iconst 1) 1 54 := ⟨by decide +kernel, rfl⟩
theorem dX6_append_54 : Dc cX6_append 54 (.iadd) 1 55 := ⟨by decide +kernel, rfl⟩
theorem dX6_append_55 : Dc cX6_append 55 (.putfield 127) 3 58 := ⟨by decide +kernel, rfl⟩
theorem dX6_append_58 : Dc cX6_append 58 (.aload_n 0) 1 59 := ⟨by decide +kernel, rfl⟩
theorem dX6_append_59 : Dc cX6_append 59 (.getfield 127) 3 62 := ⟨by decide +kernel, rfl⟩
theorem dX6_append_62 : Dc cX6_append 62 (.ireturn) 1 63 := ⟨by decide +kernel, rfl⟩
def F_X6_append (o : OM) (v1 : Int32) : Option (Int32 × OM) := bq (F_X6_in o v1 ((33 : Int32)) ((126 : Int32))) (fun r_1 => bd (fun (s_2 : Int32) => bn (F_X6_holds o s_2) (fun r_3 o_4 => if r_3 = 0 then (some (((0 : Int32)), o_4)) else (grd (inB (rd o_4 19 0 7) 60) (bd (wr o_4 23 0 (rd o_4 19 0 7).toNatClampNeg v1) (fun o_5 : OM => bd (wr o_5 19 0 7 ((rd o_5 19 0 7) + ((1 : Int32)))) (fun o_6 : OM => some ((rd o_6 19 0 7), o_6))))))) (fun k30 => if r_1 = 0 then (k30 ((1 : Int32))) else (if (rd o 19 0 7) = ((60 : Int32)) then (k30 ((2 : Int32))) else (k30 ((0 : Int32))))))
abbrev rmX6_append : Room := { frames := 1, cells := 0, slots := 0, locals := 22 }
set_option maxHeartbeats 4000000 in
set_option maxRecDepth 100000 in
theorem wX6_append {G : Gd} {p : Program} {l : Launch} {e : Env} {s : State} {m : MethodId} {args : Array Value} {below : List Frame} {meth : Method} {c : Code} {o : OM} {H : Heap} {L0 : List Loc} {ls : Array Slot} {r : Int32} {o9 : OM} {v1 : Int32} (C : Cx G RX6 cX6_append 2 (some .int) p s m args meth c)  (P : Hp G o s H L0) (hl : lv_has ls 2 [(0, .ref (rA G 19 0)), (1, .int v1)]) (hf : F_X6_append o v1 = some (r, o9)) : W p l e rmX6_append s m args below meth c H L0 0 0 (Qm G (some (.int r)) o9 rmX6_append below args s) (F0 m 0 ls []) := by
  unfold F_X6_append at hf
  refine r_aload_n C hl 0 rfl rfl dX6_append_0 ?_
  refine r_iload_n C hl 1 rfl rfl dX6_append_1 ?_
  refine r_bipush C (v := 33) (by decide) dX6_append_2 ?_
  refine r_bipush C (v := 126) (by decide) dX6_append_4 ?_
  refine r_qSi C P cf_X6_26 (rm := rmX6_in) [.int v1, .int ((33 : Int32)), .int ((126 : Int32))] [.ref (rA G 19 0)] hf (fun _ h => ctX6_in l G o v1 ((33 : Int32)) ((126 : Int32)) h) ⟨rfl, rfl⟩ ⟨Nat.le_of_ble_eq_true rfl, Nat.le_of_ble_eq_true rfl⟩ ⟨Nat.le_of_ble_eq_true rfl, Nat.le_of_ble_eq_true rfl⟩ rfl rfl hl.1 (Nat.le_of_ble_eq_true rfl) dX6_append_6 (fun r_1 H1 L1 P hf => ?_)
  refine r_jn (fun k30 : Int32 → Option (Int32 × OM) => ∀ (s_2 : Int32) H1 L1 ls, Hp G o s H1 L1 → lv_has ls 2 [(0, .ref (rA G 19 0)), (1, .int v1)] → k30 s_2 = some (r, o9) → W p l e rmX6_append s m args below meth c H1 L1 0 0 (Qm G (some (.int r)) o9 rmX6_append below args s) (F0 m 30 ls [.int s_2, .ref (rA G 19 0)])) hf ?_ (fun k30 j30 hf => ?_)
  · intro s_2 H1 L1 ls  P hl hf
    refine r_cVi C P cf_X6_87 (rm := rmX6_holds) 19 0 (fun _ _ => ⟨_, rfl⟩) rfl rfl rfl [.int s_2] [] hf (fun _ _ h => ctX6_holds l G o s_2 h) ⟨rfl, rfl⟩ ⟨Nat.le_of_ble_eq_true rfl, Nat.le_of_ble_eq_true rfl⟩ ⟨Nat.le_of_ble_eq_true rfl, Nat.le_of_ble_eq_true rfl⟩ rfl rfl hl.1 (Nat.le_of_ble_eq_true rfl) dX6_append_30 (fun r_3 o_4 H1 L1 P hf => ?_)
    refine r_if_ne C dX6_append_33 hf (fun hf => ?_) (fun hf => ?_)
    · refine r_aload_n C hl 0 rfl rfl dX6_append_38 ?_
      refine gf_19_6 C P rfl wd_885 dX6_append_39 ?_
      refine r_aload_n C hl 0 rfl rfl dX6_append_42 ?_
      refine gf_19_7 C P rfl wd_886 dX6_append_43 ?_
      refine r_iload_n C hl 1 rfl rfl dX6_append_46 ?_
      refine r_iast C P (k := 23) (i := 0) (n := 60) (fun _ _ => rfl) rfl dX6_append_47 hf (fun o_5 H1 L1 P hf => ?_)
      refine r_aload_n C hl 0 rfl rfl dX6_append_48 ?_
      refine r_dup C rfl dX6_append_49 ?_
      refine gf_19_7 C P rfl wd_886 dX6_append_50 ?_
      refine r_iconst C (v := 1) (by decide) dX6_append_53 ?_
      refine r_iadd2 C dX6_append_54 ?_
      refine pf_19_7 C P rfl wd_886 dX6_append_55 hf (fun o_6 H1 L1 P hf => ?_)
      refine r_aload_n C hl 0 rfl rfl dX6_append_58 ?_
      refine gf_19_7 C P rfl wd_886 dX6_append_59 ?_
      exact r_iret C P (rm := rmX6_append) ⟨rfl, rfl⟩ dX6_append_62 hf
    · refine r_iconst C (v := 0) (by decide) dX6_append_36 ?_
      exact r_iret C P (rm := rmX6_append) ⟨rfl, rfl⟩ dX6_append_37 hf
  refine r_if_ne C dX6_append_9 hf (fun hf => ?_) (fun hf => ?_)
  · refine r_aload_n C hl 0 rfl rfl dX6_append_16 ?_
    refine gf_19_7 C P rfl wd_886 dX6_append_17 ?_
    refine r_bipush C (v := 60) (by decide) dX6_append_20 ?_
    refine r_icmp_ne C dX6_append_22 hf (fun hf => ?_) (fun hf => ?_)
    · refine r_iconst C (v := 0) (by decide) dX6_append_29 ?_
      exact j30 ((0 : Int32)) _ _ _ P (lv_sub hl [0, 1] rfl) hf
    · refine r_iconst C (v := 2) (by decide) dX6_append_25 ?_
      refine r_goto C dX6_append_26 ?_
      exact j30 ((2 : Int32)) _ _ _ P (lv_sub hl [0, 1] rfl) hf
  · refine r_iconst C (v := 1) (by decide) dX6_append_12 ?_
    refine r_goto C dX6_append_13 ?_
    exact j30 ((1 : Int32)) _ _ _ P (lv_sub hl [0, 1] rfl) hf
theorem ctX6_append (l : Launch) (G : Gd) (o : OM) (v1 : Int32)  {r : Int32} {o9 : OM} (hf : F_X6_append o v1 = some (r, o9)) : Ct l yX6_append cX6_append 2 (some .int) rmX6_append G [.ref (rA G 19 0), .int v1] o (some (.int r)) o9 := ct_of (by decide +kernel) (Nat.le_of_ble_eq_true rfl) (fun p e s m below meth c ls C P hl => wX6_append C  P hl hf)
theorem dX6_clearBuffer_0 : Dc cX6_clearBuffer 0 (.aload_n 0) 1 1 := ⟨by decide +kernel, rfl⟩
theorem dX6_clearBuffer_1 : Dc cX6_clearBuffer 1 (.iconst 0) 1 2 := ⟨by decide +kernel, rfl⟩
theorem dX6_clearBuffer_2 : Dc cX6_clearBuffer 2 (.putfield 22) 3 5 := ⟨by decide +kernel, rfl⟩
theorem dX6_clearBuffer_5 : Dc cX6_clearBuffer 5 (.aload_n 0) 1 6 := ⟨by decide +kernel, rfl⟩
theorem dX6_clearBuffer_6 : Dc cX6_clearBuffer 6 (.getfield 127) 3 9 := ⟨by decide +kernel, rfl⟩
theorem dX6_clearBuffer_9 : Dc cX6_clearBuffer 9 (.istore_n 1) 1 10 := ⟨by decide +kernel, rfl⟩
theorem dX6_clearBuffer_10 : Dc cX6_clearBuffer 10 (.aload_n 0) 1 11 := ⟨by decide +kernel, rfl⟩
theorem dX6_clearBuffer_11 : Dc cX6_clearBuffer 11 (.iconst 0) 1 12 := ⟨by decide +kernel, rfl⟩
theorem dX6_clearBuffer_12 : Dc cX6_clearBuffer 12 (.putfield 127) 3 15 := ⟨by decide +kernel, rfl⟩
theorem dX6_clearBuffer_15 : Dc cX6_clearBuffer 15 (.iload_n 1) 1 16 := ⟨by decide +kernel, rfl⟩
theorem dX6_clearBuffer_16 : Dc cX6_clearBuffer 16 (.ireturn) 1 17 := ⟨by decide +kernel, rfl⟩
def F_X6_clearBuffer (o : OM) : Option (Int32 × OM) := bd (wr o 19 0 0 ((0 : Int32))) (fun o_1 : OM => bd (rd o_1 19 0 7) (fun v1_2 : Int32 => bd (wr o_1 19 0 7 ((0 : Int32))) (fun o_3 : OM => some (v1_2, o_3))))
abbrev rmX6_clearBuffer : Room := { frames := 0, cells := 0, slots := 0, locals := 0 }
set_option maxHeartbeats 4000000 in
set_option maxRecDepth 100000 in
theorem wX6_clearBuffer {G : Gd} {p : Program} {l : Launch} {e : Env} {s : State} {m : MethodId} {args : Array Value} {below : List Frame} {meth : Method} {c : Code} {o : OM} {H : Heap} {L0 : List Loc} {ls : Array Slot} {r : Int32} {o9 : OM}  (C : Cx G RX6 cX6_clearBuffer 2 (some .int) p s m args meth c)  (P : Hp G o s H L0) (hl : lv_has ls 2 [(0, .ref (rA G 19 0))]) (hf : F_X6_clearBuffer o  = some (r, o9)) : W p l e rmX6_clearBuffer s m args below meth c H L0 0 0 (Qm G (some (.int r)) o9 rmX6_clearBuffer below args s) (F0 m 0 ls []) := by
  unfold F_X6_clearBuffer at hf
  refine r_aload_n C hl 0 rfl rfl dX6_clearBuffer_0 ?_
  refine r_iconst C (v := 0) (by decide) dX6_clearBuffer_1 ?_
  refine pf_19_0 C P rfl wd_879 dX6_clearBuffer_2 hf (fun o_1 H1 L1 P hf => ?_)
  refine r_aload_n C hl 0 rfl rfl dX6_clearBuffer_5 ?_
  refine gf_19_7 C P rfl wd_886 dX6_clearBuffer_6 ?_
  refine r_bdi hf (fun v1_2 hf => ?_)
  refine r_istore_n C [(1, .int v1_2), (0, .ref (rA G 19 0))] hl (by decide) rfl rfl dX6_clearBuffer_9 (fun ls hl => ?_)
  refine r_aload_n C hl 1 rfl rfl dX6_clearBuffer_10 ?_
  refine r_iconst C (v := 0) (by decide) dX6_clearBuffer_11 ?_
  refine pf_19_7 C P rfl wd_886 dX6_clearBuffer_12 hf (fun o_3 H1 L1 P hf => ?_)
  refine r_iload_n C hl 0 rfl rfl dX6_clearBuffer_15 ?_
  exact r_iret C P (rm := rmX6_clearBuffer) ⟨rfl, rfl⟩ dX6_clearBuffer_16 hf
theorem ctX6_clearBuffer (l : Launch) (G : Gd) (o : OM)   {r : Int32} {o9 : OM} (hf : F_X6_clearBuffer o  = some (r, o9)) : Ct l yX6_clearBuffer cX6_clearBuffer 2 (some .int) rmX6_clearBuffer G [.ref (rA G 19 0)] o (some (.int r)) o9 := ct_of (by decide +kernel) (Nat.le_of_ble_eq_true rfl) (fun p e s m below meth c ls C P hl => wX6_clearBuffer C  P hl hf)
theorem dX6_isNext_0 : Dc cX6_isNext 0 (.aload_n 0) 1 1 := ⟨by decide +kernel, rfl⟩
theorem dX6_isNext_1 : Dc cX6_isNext 1 (.getfield 130) 3 4 := ⟨by decide +kernel, rfl⟩
theorem dX6_isNext_4 : Dj cX6_isNext 4 (.ifCond .ne 35) 3 7 (35) 39 := ⟨by decide +kernel, rfl, by decide⟩
theorem dX6_isNext_7 : Dc cX6_isNext 7 (.aload_n 0) 1 8 := ⟨by decide +kernel, rfl⟩
theorem dX6_isNext_8 : Dc cX6_isNext 8 (.getfield 134) 3 11 := ⟨by decide +kernel, rfl⟩
theorem dX6_isNext_11 : Dc cX6_isNext 11 (.aload_n 0) 1 12 := ⟨by decide +kernel, rfl⟩
theorem dX6_isNext_12 : Dc cX6_isNext 12 (.getfield 127) 3 15 := ⟨by decide +kernel, rfl⟩
theorem dX6_isNext_15 : Dj cX6_isNext 15 (.if_icmp .ge 24) 3 18 (24) 39 := ⟨by decide +kernel, rfl, by decide⟩
theorem dX6_isNext_18 : Dc cX6_isNext 18 (.aload_n 0) 1 19 := ⟨by decide +kernel, rfl⟩
theorem dX6_isNext_19 : Dc cX6_isNext 19 (.getfield 19) 3 22 := ⟨by decide +kernel, rfl⟩
theorem dX6_isNext_22 : Dc cX6_isNext 22 (.aload_n 0) 1 23 := ⟨by decide +kernel, rfl⟩
theorem dX6_isNext_23 : Dc cX6_isNext 23 (.getfield 134) 3 26 := ⟨by decide +kernel, rfl⟩
theorem dX6_isNext_26 : Dc cX6_isNext 26 (.iaload) 1 27 := ⟨by decide +kernel, rfl⟩
theorem dX6_isNext_27 : Dc cX6_isNext 27 (.iload_n 1) 1 28 := ⟨by decide +kernel, rfl⟩
theorem dX6_isNext_28 : Dc cX6_isNext 28 (.iload_n 2) 1 29 := ⟨by decide +kernel, rfl⟩
theorem dX6_isNext_29 : Dc cX6_isNext 29 (.invokestatic 26) 3 32 := ⟨by decide +kernel, rfl⟩
theorem dX6_isNext_32 : Dj cX6_isNext 32 (.ifCond .eq 7) 3 35 (7) 39 := ⟨by decide +kernel, rfl, by decide⟩
theorem dX6_isNext_35 : Dc cX6_isNext 35 (.iconst 1) 1 36 := ⟨by decide +kernel, rfl⟩
theorem dX6_isNext_36 : Dj cX6_isNext 36 (.goto 4) 3 39 (4) 40 := ⟨by decide +kernel, rfl, by decide⟩
theorem dX6_isNext_39 : Dc cX6_isNext 39 (.iconst 0) 1 40 := ⟨by decide +kernel, rfl⟩
theorem dX6_isNext_40 : Dc cX6_isNext 40 (.ireturn) 1 41 := ⟨by decide +kernel, rfl⟩
def F_X6_isNext (o : OM) (v1 : Int32) (v2 : Int32) : Option Int32 := bd (fun (s_1 : Int32) => grd (isZ s_1) (some s_1)) (fun k40 => bd (fun (_ : Unit) => k40 ((0 : Int32))) (fun k39 => if (rd o 19 0 9) = 0 then (if (rd o 19 0 7) ≤ (rd o 19 0 8) then (k39 ()) else (grd (inB (rd o 19 0 8) 60) (bq (F_X6_in o (rd o 23 0 (rd o 19 0 8).toNatClampNeg) v1 v2) (fun r_2 => if r_2 = 0 then (k39 ()) else (k40 ((1 : Int32))))))) else (k39 ())))
abbrev rmX6_isNext : Room := { frames := 1, cells := 0, slots := 0, locals := 22 }
set_option maxHeartbeats 4000000 in
set_option maxRecDepth 100000 in
theorem wX6_isNext {G : Gd} {p : Program} {l : Launch} {e : Env} {s : State} {m : MethodId} {args : Array Value} {below : List Frame} {meth : Method} {c : Code} {o : OM} {H : Heap} {L0 : List Loc} {ls : Array Slot} {r : Int32} {v1 : Int32} {v2 : Int32} (C : Cx G RX6 cX6_isNext 3 (some .boolean) p s m args meth c)  (P : Hp G o s H L0) (hl : lv_has ls 3 [(0, .ref (rA G 19 0)), (1, .int v1), (2, .int v2)]) (hf : F_X6_isNext o v1 v2 = some r) : W p l e rmX6_isNext s m args below meth c H L0 0 0 (Qm G (some (.int r)) o rmX6_isNext below args s) (F0 m 0 ls []) := by
  unfold F_X6_isNext at hf
  refine r_aload_n C hl 0 rfl rfl dX6_isNext_0 ?_
  refine gf_19_9 C P rfl wd_888 dX6_isNext_1 ?_
  refine r_jn (fun k40 : Int32 → Option Int32 => ∀ (s_1 : Int32) H1 L1 ls, Hp G o s H1 L1 → lv_has ls 3 [] → k40 s_1 = some r → W p l e rmX6_isNext s m args below meth c H1 L1 0 0 (Qm G (some (.int r)) o rmX6_isNext below args s) (F0 m 40 ls [.int s_1])) hf ?_ (fun k40 j40 hf => ?_)
  · intro s_1 H1 L1 ls  P hl hf
    exact q_zret C P (rm := rmX6_isNext) ⟨rfl, rfl⟩ dX6_isNext_40 hf
  refine r_jn (fun k39 : Unit → Option Int32 => ∀ H1 L1 ls, Hp G o s H1 L1 → lv_has ls 3 [] → k39 () = some r → W p l e rmX6_isNext s m args below meth c H1 L1 0 0 (Qm G (some (.int r)) o rmX6_isNext below args s) (F0 m 39 ls [])) hf ?_ (fun k39 j39 hf => ?_)
  · intro  H1 L1 ls  P hl hf
    refine r_iconst C (v := 0) (by decide) dX6_isNext_39 ?_
    exact j40 ((0 : Int32)) _ _ _ P (lv_sub hl [] rfl) hf
  refine r_if_ne C dX6_isNext_4 hf (fun hf => ?_) (fun hf => ?_)
  · exact j39  _ _ _ P (lv_sub hl [] rfl) hf
  · refine r_aload_n C hl 0 rfl rfl dX6_isNext_7 ?_
    refine gf_19_8 C P rfl wd_887 dX6_isNext_8 ?_
    refine r_aload_n C hl 0 rfl rfl dX6_isNext_11 ?_
    refine gf_19_7 C P rfl wd_886 dX6_isNext_12 ?_
    refine r_icmp_ge C dX6_isNext_15 hf (fun hf => ?_) (fun hf => ?_)
    · exact j39  _ _ _ P (lv_sub hl [] rfl) hf
    · refine r_aload_n C hl 0 rfl rfl dX6_isNext_18 ?_
      refine gf_19_6 C P rfl wd_885 dX6_isNext_19 ?_
      refine r_aload_n C hl 0 rfl rfl dX6_isNext_22 ?_
      refine gf_19_8 C P rfl wd_887 dX6_isNext_23 ?_
      refine r_iald C P (k := 23) (i := 0) (n := 60) (fun _ _ => rfl) rfl dX6_isNext_26 hf (fun hf => ?_)
      refine r_iload_n C hl 1 rfl rfl dX6_isNext_27 ?_
      refine r_iload_n C hl 2 rfl rfl dX6_isNext_28 ?_
      refine r_qSi C P cf_X6_26 (rm := rmX6_in) [.int (rd o 23 0 (rd o 19 0 8).toNatClampNeg), .int v1, .int v2] [] hf (fun _ h => ctX6_in l G o (rd o 23 0 (rd o 19 0 8).toNatClampNeg) v1 v2 h) ⟨rfl, rfl⟩ ⟨Nat.le_of_ble_eq_true rfl, Nat.le_of_ble_eq_true rfl⟩ ⟨Nat.le_of_ble_eq_true rfl, Nat.le_of_ble_eq_true rfl⟩ rfl rfl hl.1 (Nat.le_of_ble_eq_true rfl) dX6_isNext_29 (fun r_2 H1 L1 P hf => ?_)
      refine r_if_eq C dX6_isNext_32 hf (fun hf => ?_) (fun hf => ?_)
      · exact j39  _ _ _ P (lv_sub hl [] rfl) hf
      · refine r_iconst C (v := 1) (by decide) dX6_isNext_35 ?_
        refine r_goto C dX6_isNext_36 ?_
        exact j40 ((1 : Int32)) _ _ _ P (lv_sub hl [] rfl) hf
theorem ctX6_isNext (l : Launch) (G : Gd) (o : OM) (v1 : Int32) (v2 : Int32)  {r : Int32} (hf : F_X6_isNext o v1 v2 = some r) : Ct l yX6_isNext cX6_isNext 3 (some .boolean) rmX6_isNext G [.ref (rA G 19 0), .int v1, .int v2] o (some (.int r)) o := ct_of (by decide +kernel) (Nat.le_of_ble_eq_true rfl) (fun p e s m below meth c ls C P hl => wX6_isNext C  P hl hf)
theorem cf_X6_137 : CallF false RX6 137 yX6_isNext cX6_isNext 3 (some .boolean) 2 := ⟨wd_1095, (by rw [if_neg (by decide)]; exact ⟨wd_1097, wd_46⟩), wd_71, wd_1098, by decide, by decide +kernel⟩
theorem dX6_takes_0 : Dc cX6_takes 0 (.aload_n 0) 1 1 := ⟨by decide +kernel, rfl⟩
theorem dX6_takes_1 : Dc cX6_takes 1 (.iload_n 1) 1 2 := ⟨by decide +kernel, rfl⟩
theorem dX6_takes_2 : Dc cX6_takes 2 (.iload_n 2) 1 3 := ⟨by decide +kernel, rfl⟩
theorem dX6_takes_3 : Dc cX6_takes 3 (.invokevirtual 137) 3 6 := ⟨by decide +kernel, rfl⟩
theorem dX6_takes_6 : Dc cX6_takes 6 (.istore_n 3) 1 7 := ⟨by decide +kernel, rfl⟩
theorem dX6_takes_7 : Dc cX6_takes 7 (.iload_n 3) 1 8 := ⟨by decide +kernel, rfl⟩
theorem dX6_takes_8 : Dj cX6_takes 8 (.ifCond .eq 17) 3 11 (17) 25 := ⟨by decide +kernel, rfl, by decide⟩
theorem dX6_takes_11 : Dc cX6_takes 11 (.aload_n 0) 1 12 := ⟨by decide +kernel, rfl⟩
theorem dX6_takes_12 : Dc cX6_takes 12 (.getfield 19) 3 15 := ⟨by decide +kernel, rfl⟩
theorem dX6_takes_15 : Dc cX6_takes 15 (.aload_n 0) 1 16 := ⟨by decide +kernel, rfl⟩
theorem dX6_takes_16 : Dc cX6_takes 16 (.getfield 134) 3 19 := ⟨by decide +kernel, rfl⟩
theorem dX6_takes_19 : Dc cX6_takes 19 (.iaload) 1 20 := ⟨by decide +kernel, rfl⟩
theorem dX6_takes_20 : Dc cX6_takes 20 (.iload_n 1) 1 21 := ⟨by decide +kernel, rfl⟩
theorem dX6_takes_21 : Dc cX6_takes 21 (.isub) 1 22 := ⟨by decide +kernel, rfl⟩
theorem dX6_takes_22 : Dj cX6_takes 22 (.goto 4) 3 25 (4) 26 := ⟨by decide +kernel, rfl, by decide⟩
theorem dX6_takes_25 : Dc cX6_takes 25 (.iconst 0) 1 26 := ⟨by decide +kernel, rfl⟩
theorem dX6_takes_26 : Dc cX6_takes 26 (.istore 4) 2 28 := ⟨by decide +kernel, rfl⟩
theorem dX6_takes_28 : Dc cX6_takes 28 (.aload_n 0) 1 29 := ⟨by decide +kernel, rfl⟩
theorem dX6_takes_29 : Dc cX6_takes 29 (.dup) 1 30 := ⟨by decide +kernel, rfl⟩
theorem dX6_takes_30 : Dc cX6_takes 30 (.getfield 134) 3 33 := ⟨by decide +kernel, rfl⟩
theorem dX6_takes_33 : Dc cX6_takes 33 (.iload_n 3) 1 34 := ⟨by decide +kernel, rfl⟩
theorem dX6_takes_34 : Dj cX6_takes 34 (.ifCond .eq 7) 3 37 (7) 41 := ⟨by decide +kernel, rfl, by decide⟩
theorem dX6_takes_37 : Dc cX6_takes 37 (.iconst 1) 1 38 := ⟨by decide +kernel, rfl⟩
theorem dX6_takes_38 : Dj cX6_takes 38 (.goto 4) 3 41 (4) 42 := ⟨by decide +kernel, rfl, by decide⟩
theorem dX6_takes_41 : Dc cX6_takes 41 (.iconst 0) 1 42 := ⟨by decide +kernel, rfl⟩
theorem dX6_takes_42 : Dc cX6_takes 42 (.iadd) 1 43 := ⟨by decide +kernel, rfl⟩
theorem dX6_takes_43 : Dc cX6_takes 43 (.putfield 134) 3 46 := ⟨by decide +kernel, rfl⟩
theorem dX6_takes_46 : Dc cX6_takes 46 (.aload_n 0) 1 47 := ⟨by decide +kernel, rfl⟩
theorem dX6_takes_47 : Dc cX6_takes 47 (.aload_n 0) 1 48 := ⟨by decide +kernel, rfl⟩
theorem dX6_takes_48 : Dc cX6_takes 48 (.getfield 130) 3 51 := ⟨by decide +kernel, rfl⟩
theorem dX6_takes_51 : Dj cX6_takes 51 (.ifCond .ne 7) 3 54 (7) 58 := ⟨by decide +kernel, rfl, by decide⟩
theorem dX6_takes_54 : Dc cX6_takes 54 (.iload_n 3) 1 55 := ⟨by decide +kernel, rfl⟩
theorem dX6_takes_55 : Dj cX6_takes 55 (.ifCond .ne 7) 3 58 (7) 62 := ⟨by decide +kernel, rfl, by decide⟩
theorem dX6_takes_58 : Dc cX6_takes 58 (.iconst 1) 1 59 := ⟨by decide +kernel, rfl⟩
theorem dX6_takes_59 : Dj cX6_takes 59 (.goto 4) 3 62 (4) 63 := ⟨by decide +kernel, rfl, by decide⟩
theorem dX6_takes_62 : Dc cX6_takes 62 (.iconst 0) 1 63 := ⟨by decide +kernel, rfl⟩
theorem dX6_takes_63 : Dc cX6_takes 63 (.putfield 130) 3 66 := ⟨by decide +kernel, rfl⟩
theorem dX6_takes_66 : Dc cX6_takes 66 (.iload 4) 2 68 := ⟨by decide +kernel, rfl⟩
theorem dX6_takes_68 : Dc cX6_takes 68 (.ireturn) 1 69 := ⟨by decide +kernel, rfl⟩
def F_X6_takes (o : OM) (v1 : Int32) (v2 : Int32) : Option (Int32 × OM) := bq (F_X6_isNext o v1 v2) (fun r_1 => bd (fun (s_2 : Int32) => bd (fun (s_3 : Int32) => bd (wr o 19 0 8 ((rd o 19 0 8) + s_3)) (fun o_4 : OM => bd (fun (s_5 : Int32) => grd (isZ s_5) (bd (wr o_4 19 0 9 s_5) (fun o_6 : OM => some (s_2, o_6)))) (fun k63 => if (rd o_4 19 0 9) = 0 then (if r_1 = 0 then (k63 ((1 : Int32))) else (k63 ((0 : Int32)))) else (k63 ((1 : Int32)))))) (fun k42 => if r_1 = 0 then (k42 ((0 : Int32))) else (k42 ((1 : Int32))))) (fun k26 => if r_1 = 0 then (k26 ((0 : Int32))) else (grd (inB (rd o 19 0 8) 60) (k26 ((rd o 23 0 (rd o 19 0 8).toNatClampNeg) - v1)))))
abbrev rmX6_takes : Room := { frames := 2, cells := 0, slots := 0, locals := 44 }
set_option maxHeartbeats 4000000 in
set_option maxRecDepth 100000 in
theorem wX6_takes {G : Gd} {p : Program} {l : Launch} {e : Env} {s : State} {m : MethodId} {args : Array Value} {below : List Frame} {meth : Method} {c : Code} {o : OM} {H : Heap} {L0 : List Loc} {ls : Array Slot} {r : Int32} {o9 : OM} {v1 : Int32} {v2 : Int32} (C : Cx G RX6 cX6_takes 5 (some .int) p s m args meth c)  (P : Hp G o s H L0) (hl : lv_has ls 5 [(0, .ref (rA G 19 0)), (1, .int v1), (2, .int v2)]) (hf : F_X6_takes o v1 v2 = some (r, o9)) : W p l e rmX6_takes s m args below meth c H L0 0 0 (Qm G (some (.int r)) o9 rmX6_takes below args s) (F0 m 0 ls []) := by
  unfold F_X6_takes at hf
  refine r_aload_n C hl 0 rfl rfl dX6_takes_0 ?_
  refine r_iload_n C hl 1 rfl rfl dX6_takes_1 ?_
  refine r_iload_n C hl 2 rfl rfl dX6_takes_2 ?_
  refine r_qVi C P cf_X6_137 (rm := rmX6_isNext) 19 0 (fun _ _ => ⟨_, rfl⟩) rfl rfl rfl [.int v1, .int v2] [] hf (fun _ h => ctX6_isNext l G o v1 v2 h) ⟨rfl, rfl⟩ ⟨Nat.le_of_ble_eq_true rfl, Nat.le_of_ble_eq_true rfl⟩ ⟨Nat.le_of_ble_eq_true rfl, Nat.le_of_ble_eq_true rfl⟩ rfl rfl hl.1 (Nat.le_of_ble_eq_true rfl) dX6_takes_3 (fun r_1 H1 L1 P hf => ?_)
  refine r_istore_n C [(3, .int r_1), (0, .ref (rA G 19 0)), (1, .int v1), (2, .int v2)] hl (by decide) rfl rfl dX6_takes_6 (fun ls hl => ?_)
  refine r_iload_n C hl 0 rfl rfl dX6_takes_7 ?_
  refine r_jn (fun k26 : Int32 → Option (Int32 × OM) => ∀ (s_2 : Int32) H1 L1 ls, Hp G o s H1 L1 → lv_has ls 5 [(0, .ref (rA G 19 0)), (3, .int r_1)] → k26 s_2 = some (r, o9) → W p l e rmX6_takes s m args below meth c H1 L1 0 0 (Qm G (some (.int r)) o9 rmX6_takes below args s) (F0 m 26 ls [.int s_2])) hf ?_ (fun k26 j26 hf => ?_)
  · intro s_2 H1 L1 ls  P hl hf
    refine r_istore C [(4, .int s_2), (0, .ref (rA G 19 0)), (3, .int r_1)] hl (by decide) rfl dX6_takes_26 (fun ls hl => ?_)
    refine r_aload_n C hl 1 rfl rfl dX6_takes_28 ?_
    refine r_dup C rfl dX6_takes_29 ?_
    refine gf_19_8 C P rfl wd_887 dX6_takes_30 ?_
    refine r_iload_n C hl 2 rfl rfl dX6_takes_33 ?_
    refine r_jn (fun k42 : Int32 → Option (Int32 × OM) => ∀ (s_3 : Int32) H1 L1 ls, Hp G o s H1 L1 → lv_has ls 5 [(0, .ref (rA G 19 0)), (3, .int r_1), (4, .int s_2)] → k42 s_3 = some (r, o9) → W p l e rmX6_takes s m args below meth c H1 L1 0 0 (Qm G (some (.int r)) o9 rmX6_takes below args s) (F0 m 42 ls [.int s_3, .int (rd o 19 0 8), .ref (rA G 19 0)])) hf ?_ (fun k42 j42 hf => ?_)
    · intro s_3 H1 L1 ls  P hl hf
      refine r_iadd2 C dX6_takes_42 ?_
      refine pf_19_8 C P rfl wd_887 dX6_takes_43 hf (fun o_4 H1 L1 P hf => ?_)
      refine r_aload_n C hl 0 rfl rfl dX6_takes_46 ?_
      refine r_aload_n C hl 0 rfl rfl dX6_takes_47 ?_
      refine gf_19_9 C P rfl wd_888 dX6_takes_48 ?_
      refine r_jn (fun k63 : Int32 → Option (Int32 × OM) => ∀ (s_5 : Int32) H1 L1 ls, Hp G o_4 s H1 L1 → lv_has ls 5 [(4, .int s_2)] → k63 s_5 = some (r, o9) → W p l e rmX6_takes s m args below meth c H1 L1 0 0 (Qm G (some (.int r)) o9 rmX6_takes below args s) (F0 m 63 ls [.int s_5, .ref (rA G 19 0)])) hf ?_ (fun k63 j63 hf => ?_)
      · intro s_5 H1 L1 ls  P hl hf
        refine pf_19_9 C P rfl wd_888 dX6_takes_63 hf (fun o_6 H1 L1 P hf => ?_)
        refine r_iload C hl 0 rfl dX6_takes_66 ?_
        exact r_iret C P (rm := rmX6_takes) ⟨rfl, rfl⟩ dX6_takes_68 hf
      refine r_if_ne C dX6_takes_51 hf (fun hf => ?_) (fun hf => ?_)
      · refine r_iconst C (v := 1) (by decide) dX6_takes_58 ?_
        refine r_goto C dX6_takes_59 ?_
        exact j63 ((1 : Int32)) _ _ _ P (lv_sub hl [2] rfl) hf
      · refine r_iload_n C hl 1 rfl rfl dX6_takes_54 ?_
        refine r_if_ne C dX6_takes_55 hf (fun hf => ?_) (fun hf => ?_)
        · refine r_iconst C (v := 0) (by decide) dX6_takes_62 ?_
          exact j63 ((0 : Int32)) _ _ _ P (lv_sub hl [2] rfl) hf
        · refine r_iconst C (v := 1) (by decide) dX6_takes_58 ?_
          refine r_goto C dX6_takes_59 ?_
          exact j63 ((1 : Int32)) _ _ _ P (lv_sub hl [2] rfl) hf
    refine r_if_eq C dX6_takes_34 hf (fun hf => ?_) (fun hf => ?_)
    · refine r_iconst C (v := 0) (by decide) dX6_takes_41 ?_
      exact j42 ((0 : Int32)) _ _ _ P (lv_sub hl [1, 2, 0] rfl) hf
    · refine r_iconst C (v := 1) (by decide) dX6_takes_37 ?_
      refine r_goto C dX6_takes_38 ?_
      exact j42 ((1 : Int32)) _ _ _ P (lv_sub hl [1, 2, 0] rfl) hf
  refine r_if_eq C dX6_takes_8 hf (fun hf => ?_) (fun hf => ?_)
  · refine r_iconst C (v := 0) (by decide) dX6_takes_25 ?_
    exact j26 ((0 : Int32)) _ _ _ P (lv_sub hl [1, 0] rfl) hf
  · refine r_aload_n C hl 1 rfl rfl dX6_takes_11 ?_
    refine gf_19_6 C P rfl wd_885 dX6_takes_12 ?_
    refine r_aload_n C hl 1 rfl rfl dX6_takes_15 ?_
    refine gf_19_8 C P rfl wd_887 dX6_takes_16 ?_
    refine r_iald C P (k := 23) (i := 0) (n := 60) (fun _ _ => rfl) rfl dX6_takes_19 hf (fun hf => ?_)
    refine r_iload_n C hl 2 rfl rfl dX6_takes_20 ?_
    refine r_isub C dX6_takes_21 ?_
    refine r_goto C dX6_takes_22 ?_
    exact j26 ((rd o 23 0 (rd o 19 0 8).toNatClampNeg) - v1) _ _ _ P (lv_sub hl [1, 0] rfl) hf
theorem ctX6_takes (l : Launch) (G : Gd) (o : OM) (v1 : Int32) (v2 : Int32)  {r : Int32} {o9 : OM} (hf : F_X6_takes o v1 v2 = some (r, o9)) : Ct l yX6_takes cX6_takes 5 (some .int) rmX6_takes G [.ref (rA G 19 0), .int v1, .int v2] o (some (.int r)) o9 := ct_of (by decide +kernel) (Nat.le_of_ble_eq_true rfl) (fun p e s m below meth c ls C P hl => wX6_takes C  P hl hf)
theorem cf_X6_140 : CallF false RX6 140 yX6_takes cX6_takes 5 (some .int) 2 := ⟨wd_1103, (by rw [if_neg (by decide)]; exact ⟨wd_1105, wd_48⟩), wd_71, wd_1106, by decide, by decide +kernel⟩
theorem dX6_number_0 : Dc cX6_number 0 (.iload_n 1) 1 1 := ⟨by decide +kernel, rfl⟩
theorem dX6_number_1 : Dc cX6_number 1 (.aload_n 0) 1 2 := ⟨by decide +kernel, rfl⟩
theorem dX6_number_2 : Dc cX6_number 2 (.bipush 48) 2 4 := ⟨by decide +kernel, rfl⟩
theorem dX6_number_4 : Dc cX6_number 4 (.iload_n 1) 1 5 := ⟨by decide +kernel, rfl⟩
theorem dX6_number_5 : Dc cX6_number 5 (.iadd) 1 6 := ⟨by decide +kernel, rfl⟩
theorem dX6_number_6 : Dc cX6_number 6 (.bipush 57) 2 8 := ⟨by decide +kernel, rfl⟩
theorem dX6_number_8 : Dc cX6_number 8 (.invokevirtual 140) 3 11 := ⟨by decide +kernel, rfl⟩
theorem dX6_number_11 : Dc cX6_number 11 (.iadd) 1 12 := ⟨by decide +kernel, rfl⟩
theorem dX6_number_12 : Dc cX6_number 12 (.istore_n 3) 1 13 := ⟨by decide +kernel, rfl⟩
theorem dX6_number_13 : Dc cX6_number 13 (.iload_n 3) 1 14 := ⟨by decide +kernel, rfl⟩
theorem dX6_number_14 : Dj cX6_number 14 (.ifCond .le 66) 3 17 (66) 80 := ⟨by decide +kernel, rfl, by decide⟩
theorem dX6_number_17 : Dc cX6_number 17 (.aload_n 0) 1 18 := ⟨by decide +kernel, rfl⟩
theorem dX6_number_18 : Dc cX6_number 18 (.bipush 48) 2 20 := ⟨by decide +kernel, rfl⟩
theorem dX6_number_20 : Dc cX6_number 20 (.bipush 57) 2 22 := ⟨by decide +kernel, rfl⟩
theorem dX6_number_22 : Dc cX6_number 22 (.invokevirtual 137) 3 25 := ⟨by decide +kernel, rfl⟩
theorem dX6_number_25 : Dj cX6_number 25 (.ifCond .eq 55) 3 28 (55) 80 := ⟨by decide +kernel, rfl, by decide⟩
theorem dX6_number_28 : Dc cX6_number 28 (.bipush 10) 2 30 := ⟨by decide +kernel, rfl⟩
theorem dX6_number_30 : Dc cX6_number 30 (.iload_n 3) 1 31 := ⟨by decide +kernel, rfl⟩
theorem dX6_number_31 : Dc cX6_number 31 (.imul) 1 32 := ⟨by decide +kernel, rfl⟩
theorem dX6_number_32 : Dc cX6_number 32 (.aload_n 0) 1 33 := ⟨by decide +kernel, rfl⟩
theorem dX6_number_33 : Dc cX6_number 33 (.getfield 19) 3 36 := ⟨by decide +kernel, rfl⟩
theorem dX6_number_36 : Dc cX6_number 36 (.aload_n 0) 1 37 := ⟨by decide +kernel, rfl⟩
theorem dX6_number_37 : Dc cX6_number 37 (.getfield 134) 3 40 := ⟨by decide +kernel, rfl⟩
theorem dX6_number_40 : Dc cX6_number 40 (.iaload) 1 41 := ⟨by decide +kernel, rfl⟩
theorem dX6_number_41 : Dc cX6_number 41 (.iadd) 1 42 := ⟨by decide +kernel, rfl⟩
theorem dX6_number_42 : Dc cX6_number 42 (.bipush 48) 2 44 := ⟨by decide +kernel, rfl⟩
theorem dX6_number_44 : Dc cX6_number 44 (.isub) 1 45 := ⟨by decide +kernel, rfl⟩
theorem dX6_number_45 : Dc cX6_number 45 (.iload_n 2) 1 46 := ⟨by decide +kernel, rfl⟩
theorem dX6_number_46 : Dj cX6_number 46 (.if_icmp .gt 34) 3 49 (34) 80 := ⟨by decide +kernel, rfl, by decide⟩
theorem dX6_number_49 : Dc cX6_number 49 (.bipush 10) 2 51 := ⟨by decide +kernel, rfl⟩
theorem dX6_number_51 : Dc cX6_number 51 (.iload_n 3) 1 52 := ⟨by decide +kernel, rfl⟩
theorem dX6_number_52 : Dc cX6_number 52 (.imul) 1 53 := ⟨by decide +kernel, rfl⟩
theorem dX6_number_53 : Dc cX6_number 53 (.aload_n 0) 1 54 := ⟨by decide +kernel, rfl⟩
theorem dX6_number_54 : Dc cX6_number 54 (.getfield 19) 3 57 := ⟨by decide +kernel, rfl⟩
theorem dX6_number_57 : Dc cX6_number 57 (.aload_n 0) 1 58 := ⟨by decide +kernel, rfl⟩
theorem dX6_number_58 : Dc cX6_number 58 (.getfield 134) 3 61 := ⟨by decide +kernel, rfl⟩
theorem dX6_number_61 : Dc cX6_number 61 (.iaload) 1 62 := ⟨by decide +kernel, rfl⟩
theorem dX6_number_62 : Dc cX6_number 62 (.iadd) 1 63 := ⟨by decide +kernel, rfl⟩
theorem dX6_number_63 : Dc cX6_number 63 (.bipush 48) 2 65 := ⟨by decide +kernel, rfl⟩
theorem dX6_number_65 : Dc cX6_number 65 (.isub) 1 66 := ⟨by decide +kernel, rfl⟩
theorem dX6_number_66 : Dc cX6_number 66 (.istore_n 3) 1 67 := ⟨by decide +kernel, rfl⟩
theorem dX6_number_67 : Dc cX6_number 67 (.aload_n 0) 1 68 := ⟨by decide +kernel, rfl⟩
theorem dX6_number_68 : Dc cX6_number 68 (.dup) 1 69 := ⟨by decide +kernel, rfl⟩
theorem dX6_number_69 : Dc cX6_number 69 (.getfield 134) 3 72 := ⟨by decide +kernel, rfl⟩
theorem dX6_number_72 : Dc cX6_number 72 (.iconst 1) 1 73 := ⟨by decide +kernel, rfl⟩
theorem dX6_number_73 : Dc cX6_number 73 (.iadd) 1 74 := ⟨by decide +kernel, rfl⟩
theorem dX6_number_74 : Dc cX6_number 74 (.putfield 134) 3 77 := ⟨by decide +kernel, rfl⟩
theorem dX6_number_77 : Dj cX6_number 77 (.goto (-64)) 3 80 (-64) 13 := ⟨by decide +kernel, rfl, by decide⟩
theorem dX6_number_80 : Dc cX6_number 80 (.iload_n 3) 1 81 := ⟨by decide +kernel, rfl⟩
theorem dX6_number_81 : Dc cX6_number 81 (.ireturn) 1 82 := ⟨by decide +kernel, rfl⟩
def LX6_number_13 (k80 : OM → Int32 → Option (Int32 × OM)) (v2 : Int32) : Nat → OM → Int32 → Option (Int32 × OM)
  | 0 => fun _ _ => none
  | n + 1 => fun o_7 v3_6 => if v3_6 ≤ 0 then (k80 o_7 v3_6) else (bq (F_X6_isNext o_7 ((48 : Int32)) ((57 : Int32))) (fun r_8 => if r_8 = 0 then (k80 o_7 v3_6) else (grd (inB (rd o_7 19 0 8) 60) (if v2 < (((((10 : Int32)) * v3_6) + (rd o_7 23 0 (rd o_7 19 0 8).toNatClampNeg)) - ((48 : Int32))) then (k80 o_7 v3_6) else (grd (inB (rd o_7 19 0 8) 60) (bd (((((10 : Int32)) * v3_6) + (rd o_7 23 0 (rd o_7 19 0 8).toNatClampNeg)) - ((48 : Int32))) (fun v3_9 : Int32 => bd (wr o_7 19 0 8 ((rd o_7 19 0 8) + ((1 : Int32)))) (fun o_10 : OM => (LX6_number_13 k80 v2 n) o_10 v3_9))))))))
def F_X6_number (o : OM) (v1 : Int32) (v2 : Int32) : Option (Int32 × OM) := bn (F_X6_takes o (((48 : Int32)) + v1) ((57 : Int32))) (fun r_1 o_2 => bd (v1 + r_1) (fun v3_3 : Int32 => bd (fun (o_5 : OM) (v3_4 : Int32) => some (v3_4, o_5)) (fun k80 => LX6_number_13 k80 v2 FU o_2 v3_3)))
abbrev rmX6_number : Room := { frames := 3, cells := 0, slots := 0, locals := 68 }
set_option maxHeartbeats 4000000 in
set_option maxRecDepth 100000 in
theorem lX6_number_13 {G : Gd} {p : Program} {l : Launch} {e : Env} {s : State} {m : MethodId} {args : Array Value} {below : List Frame} {meth : Method} {c : Code} {r : Int32} {o9 : OM} {v2 : Int32} (C : Cx G RX6 cX6_number 4 (some .int) p s m args meth c)  {k80 : OM → Int32 → Option (Int32 × OM)} (j80 : ∀ (o_5 : OM) (v3_4 : Int32) H1 L1 ls, Hp G o_5 s H1 L1 → lv_has ls 4 [(3, .int v3_4)] → k80 o_5 v3_4 = some (r, o9) → W p l e rmX6_number s m args below meth c H1 L1 0 0 (Qm G (some (.int r)) o9 rmX6_number below args s) (F0 m 80 ls [])) : ∀ (n : Nat) (o_7 : OM) (v3_6 : Int32) H1 L1 ls, Hp G o_7 s H1 L1 → lv_has ls 4 [(0, .ref (rA G 19 0)), (2, .int v2), (3, .int v3_6)] → LX6_number_13 k80 v2 n o_7 v3_6 = some (r, o9) → W p l e rmX6_number s m args below meth c H1 L1 0 0 (Qm G (some (.int r)) o9 rmX6_number below args s) (F0 m 13 ls []) := by
  intro n
  induction n with
  | zero =>
    intro o_7 v3_6 H1 L1 ls P hl hf
    exact nomatch hf
  | succ n ih =>
    intro o_7 v3_6 H1 L1 ls P hl hf
    rw [LX6_number_13.eq_2] at hf
    refine r_iload_n C hl 2 rfl rfl dX6_number_13 ?_
    refine r_if_le C dX6_number_14 hf (fun hf => ?_) (fun hf => ?_)
    · exact j80 o_7 v3_6 _ _ _ P (lv_sub hl [2] rfl) hf
    · refine r_aload_n C hl 0 rfl rfl dX6_number_17 ?_
      refine r_bipush C (v := 48) (by decide) dX6_number_18 ?_
      refine r_bipush C (v := 57) (by decide) dX6_number_20 ?_
      refine r_qVi C P cf_X6_137 (rm := rmX6_isNext) 19 0 (fun _ _ => ⟨_, rfl⟩) rfl rfl rfl [.int ((48 : Int32)), .int ((57 : Int32))] [] hf (fun _ h => ctX6_isNext l G o_7 ((48 : Int32)) ((57 : Int32)) h) ⟨rfl, rfl⟩ ⟨Nat.le_of_ble_eq_true rfl, Nat.le_of_ble_eq_true rfl⟩ ⟨Nat.le_of_ble_eq_true rfl, Nat.le_of_ble_eq_true rfl⟩ rfl rfl hl.1 (Nat.le_of_ble_eq_true rfl) dX6_number_22 (fun r_8 H1 L1 P hf => ?_)
      refine r_if_eq C dX6_number_25 hf (fun hf => ?_) (fun hf => ?_)
      · exact j80 o_7 v3_6 _ _ _ P (lv_sub hl [2] rfl) hf
      · refine r_bipush C (v := 10) (by decide) dX6_number_28 ?_
        refine r_iload_n C hl 2 rfl rfl dX6_number_30 ?_
        refine r_imul C dX6_number_31 ?_
        refine r_aload_n C hl 0 rfl rfl dX6_number_32 ?_
        refine gf_19_6 C P rfl wd_885 dX6_number_33 ?_
        refine r_aload_n C hl 0 rfl rfl dX6_number_36 ?_
        refine gf_19_8 C P rfl wd_887 dX6_number_37 ?_
        refine r_iald C P (k := 23) (i := 0) (n := 60) (fun _ _ => rfl) rfl dX6_number_40 hf (fun hf => ?_)
        refine r_iadd2 C dX6_number_41 ?_
        refine r_bipush C (v := 48) (by decide) dX6_number_42 ?_
        refine r_isub C dX6_number_44 ?_
        refine r_iload_n C hl 1 rfl rfl dX6_number_45 ?_
        refine r_icmp_gt C dX6_number_46 hf (fun hf => ?_) (fun hf => ?_)
        · exact j80 o_7 v3_6 _ _ _ P (lv_sub hl [2] rfl) hf
        · refine r_bipush C (v := 10) (by decide) dX6_number_49 ?_
          refine r_iload_n C hl 2 rfl rfl dX6_number_51 ?_
          refine r_imul C dX6_number_52 ?_
          refine r_aload_n C hl 0 rfl rfl dX6_number_53 ?_
          refine gf_19_6 C P rfl wd_885 dX6_number_54 ?_
          refine r_aload_n C hl 0 rfl rfl dX6_number_57 ?_
          refine gf_19_8 C P rfl wd_887 dX6_number_58 ?_
          refine r_iald C P (k := 23) (i := 0) (n := 60) (fun _ _ => rfl) rfl dX6_number_61 hf (fun hf => ?_)
          refine r_iadd2 C dX6_number_62 ?_
          refine r_bipush C (v := 48) (by decide) dX6_number_63 ?_
          refine r_isub C dX6_number_65 ?_
          refine r_bdi hf (fun v3_9 hf => ?_)
          refine r_istore_n C [(3, .int v3_9), (0, .ref (rA G 19 0)), (2, .int v2)] hl (by decide) rfl rfl dX6_number_66 (fun ls hl => ?_)
          refine r_aload_n C hl 1 rfl rfl dX6_number_67 ?_
          refine r_dup C rfl dX6_number_68 ?_
          refine gf_19_8 C P rfl wd_887 dX6_number_69 ?_
          refine r_iconst C (v := 1) (by decide) dX6_number_72 ?_
          refine r_iadd2 C dX6_number_73 ?_
          refine pf_19_8 C P rfl wd_887 dX6_number_74 hf (fun o_10 H1 L1 P hf => ?_)
          refine r_goto C dX6_number_77 ?_
          exact ih o_10 v3_9 _ _ _ P (lv_sub hl [1, 2, 0] rfl) hf
set_option maxHeartbeats 4000000 in
set_option maxRecDepth 100000 in
theorem wX6_number {G : Gd} {p : Program} {l : Launch} {e : Env} {s : State} {m : MethodId} {args : Array Value} {below : List Frame} {meth : Method} {c : Code} {o : OM} {H : Heap} {L0 : List Loc} {ls : Array Slot} {r : Int32} {o9 : OM} {v1 : Int32} {v2 : Int32} (C : Cx G RX6 cX6_number 4 (some .int) p s m args meth c)  (P : Hp G o s H L0) (hl : lv_has ls 4 [(0, .ref (rA G 19 0)), (1, .int v1), (2, .int v2)]) (hf : F_X6_number o v1 v2 = some (r, o9)) : W p l e rmX6_number s m args below meth c H L0 0 0 (Qm G (some (.int r)) o9 rmX6_number below args s) (F0 m 0 ls []) := by
  unfold F_X6_number at hf
  refine r_iload_n C hl 1 rfl rfl dX6_number_0 ?_
  refine r_aload_n C hl 0 rfl rfl dX6_number_1 ?_
  refine r_bipush C (v := 48) (by decide) dX6_number_2 ?_
  refine r_iload_n C hl 1 rfl rfl dX6_number_4 ?_
  refine r_iadd2 C dX6_number_5 ?_
  refine r_bipush C (v := 57) (by decide) dX6_number_6 ?_
  refine r_cVi C P cf_X6_140 (rm := rmX6_takes) 19 0 (fun _ _ => ⟨_, rfl⟩) rfl rfl rfl [.int (((48 : Int32)) + v1), .int ((57 : Int32))] [.int v1] hf (fun _ _ h => ctX6_takes l G o (((48 : Int32)) + v1) ((57 : Int32)) h) ⟨rfl, rfl⟩ ⟨Nat.le_of_ble_eq_true rfl, Nat.le_of_ble_eq_true rfl⟩ ⟨Nat.le_of_ble_eq_true rfl, Nat.le_of_ble_eq_true rfl⟩ rfl rfl hl.1 (Nat.le_of_ble_eq_true rfl) dX6_number_8 (fun r_1 o_2 H1 L1 P hf => ?_)
  refine r_iadd2 C dX6_number_11 ?_
  refine r_bdi hf (fun v3_3 hf => ?_)
  refine r_istore_n C [(3, .int v3_3), (0, .ref (rA G 19 0)), (1, .int v1), (2, .int v2)] hl (by decide) rfl rfl dX6_number_12 (fun ls hl => ?_)
  refine r_jn (fun k80 : OM → Int32 → Option (Int32 × OM) => ∀ (o_5 : OM) (v3_4 : Int32) H1 L1 ls, Hp G o_5 s H1 L1 → lv_has ls 4 [(3, .int v3_4)] → k80 o_5 v3_4 = some (r, o9) → W p l e rmX6_number s m args below meth c H1 L1 0 0 (Qm G (some (.int r)) o9 rmX6_number below args s) (F0 m 80 ls [])) hf ?_ (fun k80 j80 hf => ?_)
  · intro o_5 v3_4 H1 L1 ls  P hl hf
    refine r_iload_n C hl 0 rfl rfl dX6_number_80 ?_
    exact r_iret C P (rm := rmX6_number) ⟨rfl, rfl⟩ dX6_number_81 hf
  exact lX6_number_13 C  j80 FU o_2 v3_3 _ _ _ P (lv_sub hl [1, 3, 0] rfl) hf
theorem ctX6_number (l : Launch) (G : Gd) (o : OM) (v1 : Int32) (v2 : Int32)  {r : Int32} {o9 : OM} (hf : F_X6_number o v1 v2 = some (r, o9)) : Ct l yX6_number cX6_number 4 (some .int) rmX6_number G [.ref (rA G 19 0), .int v1, .int v2] o (some (.int r)) o9 := ct_of (by decide +kernel) (Nat.le_of_ble_eq_true rfl) (fun p e s m below meth c ls C P hl => wX6_number C  P hl hf)
theorem cf_X6_143 : CallF false RX6 143 yX6_number cX6_number 4 (some .int) 2 := ⟨wd_1099, (by rw [if_neg (by decide)]; exact ⟨wd_1101, wd_47⟩), wd_71, wd_1102, by decide, by decide +kernel⟩
theorem dX6_signed_0 : Dc cX6_signed 0 (.aload_n 0) 1 1 := ⟨by decide +kernel, rfl⟩
theorem dX6_signed_1 : Dc cX6_signed 1 (.bipush 45) 2 3 := ⟨by decide +kernel, rfl⟩
theorem dX6_signed_3 : Dc cX6_signed 3 (.bipush 45) 2 5 := ⟨by decide +kernel, rfl⟩
theorem dX6_signed_5 : Dc cX6_signed 5 (.invokevirtual 137) 3 8 := ⟨by decide +kernel, rfl⟩
theorem dX6_signed_8 : Dj cX6_signed 8 (.ifCond .ne 10) 3 11 (10) 18 := ⟨by decide +kernel, rfl, by decide⟩
theorem dX6_signed_11 : Dc cX6_signed 11 (.aload_n 0) 1 12 := ⟨by decide +kernel, rfl⟩
theorem dX6_signed_12 : Dc cX6_signed 12 (.iconst 0) 1 13 := ⟨by decide +kernel, rfl⟩
theorem dX6_signed_13 : Dc cX6_signed 13 (.iload_n 2) 1 14 := ⟨by decide +kernel, rfl⟩
theorem dX6_signed_14 : Dc cX6_signed 14 (.invokevirtual 143) 3 17 := ⟨by decide +kernel, rfl⟩
theorem dX6_signed_17 : Dc cX6_signed 17 (.ireturn) 1 18 := ⟨by decide +kernel, rfl⟩
theorem dX6_signed_18 : Dc cX6_signed 18 (.aload_n 0) 1 19 := ⟨by decide +kernel, rfl⟩
theorem dX6_signed_19 : Dc cX6_signed 19 (.dup) 1 20 := ⟨by decide +kernel, rfl⟩
theorem dX6_signed_20 : Dc cX6_signed 20 (.getfield 134) 3 23 := ⟨by decide +kernel, rfl⟩
theorem dX6_signed_23 : Dc cX6_signed 23 (.iconst 1) 1 24 := ⟨by decide +kernel, rfl⟩
theorem dX6_signed_24 : Dc cX6_signed 24 (.iadd) 1 25 := ⟨by decide +kernel, rfl⟩
theorem dX6_signed_25 : Dc cX6_signed 25 (.putfield 134) 3 28 := ⟨by decide +kernel, rfl⟩
theorem dX6_signed_28 : Dc cX6_signed 28 (.aload_n 0) 1 29 := ⟨by decide +kernel, rfl⟩
theorem dX6_signed_29 : Dc cX6_signed 29 (.iconst 1) 1 30 := ⟨by decide +kernel, rfl⟩
theorem dX6_signed_30 : Dc cX6_signed 30 (.iload_n 1) 1 31 := ⟨by decide +kernel, rfl⟩
theorem dX6_signed_31 : Dc cX6_signed 31 (.invokevirtual 143) 3 34 := ⟨by decide +kernel, rfl⟩
theorem dX6_signed_34 : Dc cX6_signed 34 (.ineg) 1 35 := ⟨by decide +kernel, rfl⟩
theorem dX6_signed_35 : Dc cX6_signed 35 (.ireturn) 1 36 := ⟨by decide +kernel, rfl⟩
def F_X6_signed (o : OM) (v1 : Int32) (v2 : Int32) : Option (Int32 × OM) := bq (F_X6_isNext o ((45 : Int32)) ((45 : Int32))) (fun r_1 => if r_1 = 0 then (bn (F_X6_number o ((0 : Int32)) v2) (fun r_5 o_6 => some (r_5, o_6))) else (bd (wr o 19 0 8 ((rd o 19 0 8) + ((1 : Int32)))) (fun o_2 : OM => bn (F_X6_number o_2 ((1 : Int32)) v1) (fun r_3 o_4 => some ((-r_3), o_4)))))
abbrev rmX6_signed : Room := { frames := 4, cells := 0, slots := 0, locals := 91 }
set_option maxHeartbeats 4000000 in
set_option maxRecDepth 100000 in
theorem wX6_signed {G : Gd} {p : Program} {l : Launch} {e : Env} {s : State} {m : MethodId} {args : Array Value} {below : List Frame} {meth : Method} {c : Code} {o : OM} {H : Heap} {L0 : List Loc} {ls : Array Slot} {r : Int32} {o9 : OM} {v1 : Int32} {v2 : Int32} (C : Cx G RX6 cX6_signed 3 (some .int) p s m args meth c)  (P : Hp G o s H L0) (hl : lv_has ls 3 [(0, .ref (rA G 19 0)), (1, .int v1), (2, .int v2)]) (hf : F_X6_signed o v1 v2 = some (r, o9)) : W p l e rmX6_signed s m args below meth c H L0 0 0 (Qm G (some (.int r)) o9 rmX6_signed below args s) (F0 m 0 ls []) := by
  unfold F_X6_signed at hf
  refine r_aload_n C hl 0 rfl rfl dX6_signed_0 ?_
  refine r_bipush C (v := 45) (by decide) dX6_signed_1 ?_
  refine r_bipush C (v := 45) (by decide) dX6_signed_3 ?_
  refine r_qVi C P cf_X6_137 (rm := rmX6_isNext) 19 0 (fun _ _ => ⟨_, rfl⟩) rfl rfl rfl [.int ((45 : Int32)), .int ((45 : Int32))] [] hf (fun _ h => ctX6_isNext l G o ((45 : Int32)) ((45 : Int32)) h) ⟨rfl, rfl⟩ ⟨Nat.le_of_ble_eq_true rfl, Nat.le_of_ble_eq_true rfl⟩ ⟨Nat.le_of_ble_eq_true rfl, Nat.le_of_ble_eq_true rfl⟩ rfl rfl hl.1 (Nat.le_of_ble_eq_true rfl) dX6_signed_5 (fun r_1 H1 L1 P hf => ?_)
  refine r_if_ne C dX6_signed_8 hf (fun hf => ?_) (fun hf => ?_)
  · refine r_aload_n C hl 0 rfl rfl dX6_signed_18 ?_
    refine r_dup C rfl dX6_signed_19 ?_
    refine gf_19_8 C P rfl wd_887 dX6_signed_20 ?_
    refine r_iconst C (v := 1) (by decide) dX6_signed_23 ?_
    refine r_iadd2 C dX6_signed_24 ?_
    refine pf_19_8 C P rfl wd_887 dX6_signed_25 hf (fun o_2 H1 L1 P hf => ?_)
    refine r_aload_n C hl 0 rfl rfl dX6_signed_28 ?_
    refine r_iconst C (v := 1) (by decide) dX6_signed_29 ?_
    refine r_iload_n C hl 1 rfl rfl dX6_signed_30 ?_
    refine r_cVi C P cf_X6_143 (rm := rmX6_number) 19 0 (fun _ _ => ⟨_, rfl⟩) rfl rfl rfl [.int ((1 : Int32)), .int v1] [] hf (fun _ _ h => ctX6_number l G o_2 ((1 : Int32)) v1 h) ⟨rfl, rfl⟩ ⟨Nat.le_of_ble_eq_true rfl, Nat.le_of_ble_eq_true rfl⟩ ⟨Nat.le_of_ble_eq_true rfl, Nat.le_of_ble_eq_true rfl⟩ rfl rfl hl.1 (Nat.le_of_ble_eq_true rfl) dX6_signed_31 (fun r_3 o_4 H1 L1 P hf => ?_)
    refine r_ineg C dX6_signed_34 ?_
    exact r_iret C P (rm := rmX6_signed) ⟨rfl, rfl⟩ dX6_signed_35 hf
  · refine r_aload_n C hl 0 rfl rfl dX6_signed_11 ?_
    refine r_iconst C (v := 0) (by decide) dX6_signed_12 ?_
    refine r_iload_n C hl 2 rfl rfl dX6_signed_13 ?_
    refine r_cVi C P cf_X6_143 (rm := rmX6_number) 19 0 (fun _ _ => ⟨_, rfl⟩) rfl rfl rfl [.int ((0 : Int32)), .int v2] [] hf (fun _ _ h => ctX6_number l G o ((0 : Int32)) v2 h) ⟨rfl, rfl⟩ ⟨Nat.le_of_ble_eq_true rfl, Nat.le_of_ble_eq_true rfl⟩ ⟨Nat.le_of_ble_eq_true rfl, Nat.le_of_ble_eq_true rfl⟩ rfl rfl hl.1 (Nat.le_of_ble_eq_true rfl) dX6_signed_14 (fun r_5 o_6 H1 L1 P hf => ?_)
    exact r_iret C P (rm := rmX6_signed) ⟨rfl, rfl⟩ dX6_signed_17 hf
theorem ctX6_signed (l : Launch) (G : Gd) (o : OM) (v1 : Int32) (v2 : Int32)  {r : Int32} {o9 : OM} (hf : F_X6_signed o v1 v2 = some (r, o9)) : Ct l yX6_signed cX6_signed 3 (some .int) rmX6_signed G [.ref (rA G 19 0), .int v1, .int v2] o (some (.int r)) o9 := ct_of (by decide +kernel) (Nat.le_of_ble_eq_true rfl) (fun p e s m below meth c ls C P hl => wX6_signed C  P hl hf)
theorem cf_X6_149 : CallF false RX6 149 yX6_signed cX6_signed 3 (some .int) 2 := ⟨wd_1091, (by rw [if_neg (by decide)]; exact ⟨wd_1093, wd_45⟩), wd_71, wd_1094, by decide, by decide +kernel⟩
theorem dX6_readPart_0 : Dc cX6_readPart 0 (.aload_n 0) 1 1 := ⟨by decide +kernel, rfl⟩
theorem dX6_readPart_1 : Dc cX6_readPart 1 (.aload_n 0) 1 2 := ⟨by decide +kernel, rfl⟩
theorem dX6_readPart_2 : Dc cX6_readPart 2 (.getfield 134) 3 5 := ⟨by decide +kernel, rfl⟩
theorem dX6_readPart_5 : Dc cX6_readPart 5 (.aload_n 0) 1 6 := ⟨by decide +kernel, rfl⟩
theorem dX6_readPart_6 : Dc cX6_readPart 6 (.getfield 127) 3 9 := ⟨by decide +kernel, rfl⟩
theorem dX6_readPart_9 : Dj cX6_readPart 9 (.if_icmp .ge 15) 3 12 (15) 24 := ⟨by decide +kernel, rfl, by decide⟩
theorem dX6_readPart_12 : Dc cX6_readPart 12 (.aload_n 0) 1 13 := ⟨by decide +kernel, rfl⟩
theorem dX6_readPart_13 : Dc cX6_readPart 13 (.getfield 19) 3 16 := ⟨by decide +kernel, rfl⟩
theorem dX6_readPart_16 : Dc cX6_readPart 16 (.aload_n 0) 1 17 := ⟨by decide +kernel, rfl⟩
theorem dX6_readPart_17 : Dc cX6_readPart 17 (.getfield 134) 3 20 := ⟨by decide +kernel, rfl⟩
theorem dX6_readPart_20 : Dc cX6_readPart 20 (.iaload) 1 21 := ⟨by decide +kernel, rfl⟩
theorem dX6_readPart_21 : Dj cX6_readPart 21 (.goto 4) 3 24 (4) 25 := ⟨by decide +kernel, rfl, by decide⟩
theorem dX6_readPart_24 : Dc cX6_readPart 24 (.iconst 0) 1 25 := ⟨by decide +kernel, rfl⟩
theorem dX6_readPart_25 : Dc cX6_readPart 25 (.putfield 146) 3 28 := ⟨by decide +kernel, rfl⟩
theorem dX6_readPart_28 : Dc cX6_readPart 28 (.aload_n 0) 1 29 := ⟨by decide +kernel, rfl⟩
theorem dX6_readPart_29 : Dc cX6_readPart 29 (.aload_n 0) 1 30 := ⟨by decide +kernel, rfl⟩
theorem dX6_readPart_30 : Dc cX6_readPart 30 (.getfield 130) 3 33 := ⟨by decide +kernel, rfl⟩
theorem dX6_readPart_33 : Dj cX6_readPart 33 (.ifCond .ne 48) 3 36 (48) 81 := ⟨by decide +kernel, rfl, by decide⟩
theorem dX6_readPart_36 : Dc cX6_readPart 36 (.aload_n 0) 1 37 := ⟨by decide +kernel, rfl⟩
theorem dX6_readPart_37 : Dc cX6_readPart 37 (.getfield 146) 3 40 := ⟨by decide +kernel, rfl⟩
theorem dX6_readPart_40 : Dc cX6_readPart 40 (.bipush 109) 2 42 := ⟨by decide +kernel, rfl⟩
theorem dX6_readPart_42 : Dj cX6_readPart 42 (.if_icmp .eq 43) 3 45 (43) 85 := ⟨by decide +kernel, rfl, by decide⟩
theorem dX6_readPart_45 : Dc cX6_readPart 45 (.aload_n 0) 1 46 := ⟨by decide +kernel, rfl⟩
theorem dX6_readPart_46 : Dc cX6_readPart 46 (.getfield 146) 3 49 := ⟨by decide +kernel, rfl⟩
theorem dX6_readPart_49 : Dc cX6_readPart 49 (.bipush 99) 2 51 := ⟨by decide +kernel, rfl⟩
theorem dX6_readPart_51 : Dj cX6_readPart 51 (.if_icmp .eq 34) 3 54 (34) 85 := ⟨by decide +kernel, rfl, by decide⟩
theorem dX6_readPart_54 : Dc cX6_readPart 54 (.aload_n 0) 1 55 := ⟨by decide +kernel, rfl⟩
theorem dX6_readPart_55 : Dc cX6_readPart 55 (.getfield 146) 3 58 := ⟨by decide +kernel, rfl⟩
theorem dX6_readPart_58 : Dc cX6_readPart 58 (.bipush 121) 2 60 := ⟨by decide +kernel, rfl⟩
theorem dX6_readPart_60 : Dj cX6_readPart 60 (.if_icmp .eq 25) 3 63 (25) 85 := ⟨by decide +kernel, rfl, by decide⟩
theorem dX6_readPart_63 : Dc cX6_readPart 63 (.aload_n 0) 1 64 := ⟨by decide +kernel, rfl⟩
theorem dX6_readPart_64 : Dc cX6_readPart 64 (.getfield 146) 3 67 := ⟨by decide +kernel, rfl⟩
theorem dX6_readPart_67 : Dc cX6_readPart 67 (.bipush 112) 2 69 := ⟨by decide +kernel, rfl⟩
theorem dX6_readPart_69 : Dj cX6_readPart 69 (.if_icmp .eq 16) 3 72 (16) 85 := ⟨by decide +kernel, rfl, by decide⟩
theorem dX6_readPart_72 : Dc cX6_readPart 72 (.aload_n 0) 1 73 := ⟨by decide +kernel, rfl⟩
theorem dX6_readPart_73 : Dc cX6_readPart 73 (.getfield 146) 3 76 := ⟨by decide +kernel, rfl⟩
theorem dX6_readPart_76 : Dc cX6_readPart 76 (.bipush 98) 2 78 := ⟨by decide +kernel, rfl⟩
theorem dX6_readPart_78 : Dj cX6_readPart 78 (.if_icmp .eq 7) 3 81 (7) 85 := ⟨by decide +kernel, rfl, by decide⟩
theorem dX6_readPart_81 : Dc cX6_readPart 81 (.iconst 1) 1 82 := ⟨by decide +kernel, rfl⟩
theorem dX6_readPart_82 : Dj cX6_readPart 82 (.goto 4) 3 85 (4) 86 := ⟨by decide +kernel, rfl, by decide⟩
theorem dX6_readPart_85 : Dc cX6_readPart 85 (.iconst 0) 1 86 := ⟨by decide +kernel, rfl⟩
theorem dX6_readPart_86 : Dc cX6_readPart 86 (.putfield 130) 3 89 := ⟨by decide +kernel, rfl⟩
theorem dX6_readPart_89 : Dc cX6_readPart 89 (.aload_n 0) 1 90 := ⟨by decide +kernel, rfl⟩
theorem dX6_readPart_90 : Dc cX6_readPart 90 (.dup) 1 91 := ⟨by decide +kernel, rfl⟩
theorem dX6_readPart_91 : Dc cX6_readPart 91 (.getfield 134) 3 94 := ⟨by decide +kernel, rfl⟩
theorem dX6_readPart_94 : Dc cX6_readPart 94 (.aload_n 0) 1 95 := ⟨by decide +kernel, rfl⟩
theorem dX6_readPart_95 : Dc cX6_readPart 95 (.getfield 130) 3 98 := ⟨by decide +kernel, rfl⟩
theorem dX6_readPart_98 : Dj cX6_readPart 98 (.ifCond .eq 7) 3 101 (7) 105 := ⟨by decide +kernel, rfl, by decide⟩
theorem dX6_readPart_101 : Dc cX6_readPart 101 (.iconst 0) 1 102 := ⟨by decide +kernel, rfl⟩
theorem dX6_readPart_102 : Dj cX6_readPart 102 (.goto 4) 3 105 (4) 106 := ⟨by decide +kernel, rfl, by decide⟩
theorem dX6_readPart_105 : Dc cX6_readPart 105 (.iconst 1) 1 106 := ⟨by decide +kernel, rfl⟩
theorem dX6_readPart_106 : Dc cX6_readPart 106 (.iadd) 1 107 := ⟨by decide +kernel, rfl⟩
theorem dX6_readPart_107 : Dc cX6_readPart 107 (.putfield 134) 3 110 := ⟨by decide +kernel, rfl⟩
theorem dX6_readPart_110 : Dc cX6_readPart 110 (.iconst 0) 1 111 := ⟨by decide +kernel, rfl⟩
theorem dX6_readPart_111 : Dc cX6_readPart 111 (.istore_n 1) 1 112 := ⟨by decide +kernel, rfl⟩
theorem dX6_readPart_112 : Dc cX6_readPart 112 (.aload_n 0) 1 113 := ⟨by decide +kernel, rfl⟩
theorem dX6_readPart_113 : Dc cX6_readPart 113 (.getfield 146) 3 116 := ⟨by decide +kernel, rfl⟩
theorem dX6_readPart_116 : Dc cX6_readPart 116 (.lookupswitch 212 #[(98, 174), (99, 109), (109, 52), (112, 159), (121, 145)]) 52 168 := ⟨by decide +kernel, rfl⟩
theorem dX6_readPart_168 : Dc cX6_readPart 168 (.aload_n 0) 1 169 := ⟨by decide +kernel, rfl⟩
theorem dX6_readPart_169 : Dc cX6_readPart 169 (.aload_n 0) 1 170 := ⟨by decide +kernel, rfl⟩
theorem dX6_readPart_170 : Dc cX6_readPart 170 (.bipush 50) 2 172 := ⟨by decide +kernel, rfl⟩
theorem dX6_readPart_172 : Dc cX6_readPart 172 (.bipush 50) 2 174 := ⟨by decide +kernel, rfl⟩
theorem dX6_readPart_174 : Dc cX6_readPart 174 (.invokevirtual 149) 3 177 := ⟨by decide +kernel, rfl⟩
theorem dX6_readPart_177 : Dc cX6_readPart 177 (.putfield 152) 3 180 := ⟨by decide +kernel, rfl⟩
theorem dX6_readPart_180 : Dc cX6_readPart 180 (.aload_n 0) 1 181 := ⟨by decide +kernel, rfl⟩
theorem dX6_readPart_181 : Dc cX6_readPart 181 (.bipush 44) 2 183 := ⟨by decide +kernel, rfl⟩
theorem dX6_readPart_183 : Dc cX6_readPart 183 (.bipush 44) 2 185 := ⟨by decide +kernel, rfl⟩
theorem dX6_readPart_185 : Dc cX6_readPart 185 (.invokevirtual 140) 3 188 := ⟨by decide +kernel, rfl⟩
theorem dX6_readPart_188 : Dc cX6_readPart 188 (.istore_n 1) 1 189 := ⟨by decide +kernel, rfl⟩
theorem dX6_readPart_189 : Dc cX6_readPart 189 (.aload_n 0) 1 190 := ⟨by decide +kernel, rfl⟩
theorem dX6_readPart_190 : Dc cX6_readPart 190 (.aload_n 0) 1 191 := ⟨by decide +kernel, rfl⟩
theorem dX6_readPart_191 : Dc cX6_readPart 191 (.bipush 50) 2 193 := ⟨by decide +kernel, rfl⟩
theorem dX6_readPart_193 : Dc cX6_readPart 193 (.bipush 50) 2 195 := ⟨by decide +kernel, rfl⟩
theorem dX6_readPart_195 : Dc cX6_readPart 195 (.invokevirtual 149) 3 198 := ⟨by decide +kernel, rfl⟩
theorem dX6_readPart_198 : Dc cX6_readPart 198 (.putfield 155) 3 201 := ⟨by decide +kernel, rfl⟩
theorem dX6_readPart_201 : Dc cX6_readPart 201 (.aload_n 0) 1 202 := ⟨by decide +kernel, rfl⟩
theorem dX6_readPart_202 : Dc cX6_readPart 202 (.bipush 47) 2 204 := ⟨by decide +kernel, rfl⟩
theorem dX6_readPart_204 : Dc cX6_readPart 204 (.bipush 47) 2 206 := ⟨by decide +kernel, rfl⟩
theorem dX6_readPart_206 : Dc cX6_readPart 206 (.invokevirtual 140) 3 209 := ⟨by decide +kernel, rfl⟩
theorem dX6_readPart_209 : Dc cX6_readPart 209 (.istore_n 1) 1 210 := ⟨by decide +kernel, rfl⟩
theorem dX6_readPart_210 : Dc cX6_readPart 210 (.aload_n 0) 1 211 := ⟨by decide +kernel, rfl⟩
theorem dX6_readPart_211 : Dc cX6_readPart 211 (.aload_n 0) 1 212 := ⟨by decide +kernel, rfl⟩
theorem dX6_readPart_212 : Dc cX6_readPart 212 (.bipush 48) 2 214 := ⟨by decide +kernel, rfl⟩
theorem dX6_readPart_214 : Dc cX6_readPart 214 (.bipush 51) 2 216 := ⟨by decide +kernel, rfl⟩
theorem dX6_readPart_216 : Dc cX6_readPart 216 (.invokevirtual 140) 3 219 := ⟨by decide +kernel, rfl⟩
theorem dX6_readPart_219 : Dc cX6_readPart 219 (.putfield 158) 3 222 := ⟨by decide +kernel, rfl⟩
theorem dX6_readPart_222 : Dj cX6_readPart 222 (.goto 111) 3 225 (111) 333 := ⟨by decide +kernel, rfl, by decide⟩
theorem dX6_readPart_225 : Dc cX6_readPart 225 (.aload_n 0) 1 226 := ⟨by decide +kernel, rfl⟩
theorem dX6_readPart_226 : Dc cX6_readPart 226 (.aload_n 0) 1 227 := ⟨by decide +kernel, rfl⟩
theorem dX6_readPart_227 : Dc cX6_readPart 227 (.bipush 48) 2 229 := ⟨by decide +kernel, rfl⟩
theorem dX6_readPart_229 : Dc cX6_readPart 229 (.bipush 53) 2 231 := ⟨by decide +kernel, rfl⟩
theorem dX6_readPart_231 : Dc cX6_readPart 231 (.invokevirtual 140) 3 234 := ⟨by decide +kernel, rfl⟩
theorem dX6_readPart_234 : Dc cX6_readPart 234 (.putfield 152) 3 237 := ⟨by decide +kernel, rfl⟩
theorem dX6_readPart_237 : Dc cX6_readPart 237 (.aload_n 0) 1 238 := ⟨by decide +kernel, rfl⟩
theorem dX6_readPart_238 : Dc cX6_readPart 238 (.bipush 58) 2 240 := ⟨by decide +kernel, rfl⟩
theorem dX6_readPart_240 : Dc cX6_readPart 240 (.bipush 58) 2 242 := ⟨by decide +kernel, rfl⟩
theorem dX6_readPart_242 : Dc cX6_readPart 242 (.invokevirtual 140) 3 245 := ⟨by decide +kernel, rfl⟩
theorem dX6_readPart_245 : Dc cX6_readPart 245 (.istore_n 1) 1 246 := ⟨by decide +kernel, rfl⟩
theorem dX6_readPart_246 : Dc cX6_readPart 246 (.aload_n 0) 1 247 := ⟨by decide +kernel, rfl⟩
theorem dX6_readPart_247 : Dc cX6_readPart 247 (.aload_n 0) 1 248 := ⟨by decide +kernel, rfl⟩
theorem dX6_readPart_248 : Dc cX6_readPart 248 (.bipush 48) 2 250 := ⟨by decide +kernel, rfl⟩
theorem dX6_readPart_250 : Dc cX6_readPart 250 (.bipush 51) 2 252 := ⟨by decide +kernel, rfl⟩
theorem dX6_readPart_252 : Dc cX6_readPart 252 (.invokevirtual 140) 3 255 := ⟨by decide +kernel, rfl⟩
theorem dX6_readPart_255 : Dc cX6_readPart 255 (.putfield 155) 3 258 := ⟨by decide +kernel, rfl⟩
theorem dX6_readPart_258 : Dj cX6_readPart 258 (.goto 75) 3 261 (75) 333 := ⟨by decide +kernel, rfl, by decide⟩
theorem dX6_readPart_261 : Dc cX6_readPart 261 (.aload_n 0) 1 262 := ⟨by decide +kernel, rfl⟩
theorem dX6_readPart_262 : Dc cX6_readPart 262 (.aload_n 0) 1 263 := ⟨by decide +kernel, rfl⟩
theorem dX6_readPart_263 : Dc cX6_readPart 263 (.iconst 1) 1 264 := ⟨by decide +kernel, rfl⟩
theorem dX6_readPart_264 : Dc cX6_readPart 264 (.bipush 20) 2 266 := ⟨by decide +kernel, rfl⟩
theorem dX6_readPart_266 : Dc cX6_readPart 266 (.invokevirtual 143) 3 269 := ⟨by decide +kernel, rfl⟩
theorem dX6_readPart_269 : Dc cX6_readPart 269 (.putfield 152) 3 272 := ⟨by decide +kernel, rfl⟩
theorem dX6_readPart_272 : Dj cX6_readPart 272 (.goto 61) 3 275 (61) 333 := ⟨by decide +kernel, rfl, by decide⟩
theorem dX6_readPart_275 : Dc cX6_readPart 275 (.aload_n 0) 1 276 := ⟨by decide +kernel, rfl⟩
theorem dX6_readPart_276 : Dc cX6_readPart 276 (.aload_n 0) 1 277 := ⟨by decide +kernel, rfl⟩
theorem dX6_readPart_277 : Dc cX6_readPart 277 (.bipush 48) 2 279 := ⟨by decide +kernel, rfl⟩
theorem dX6_readPart_279 : Dc cX6_readPart 279 (.bipush 53) 2 281 := ⟨by decide +kernel, rfl⟩
theorem dX6_readPart_281 : Dc cX6_readPart 281 (.invokevirtual 140) 3 284 := ⟨by decide +kernel, rfl⟩
theorem dX6_readPart_284 : Dc cX6_readPart 284 (.putfield 152) 3 287 := ⟨by decide +kernel, rfl⟩
theorem dX6_readPart_287 : Dj cX6_readPart 287 (.goto 46) 3 290 (46) 333 := ⟨by decide +kernel, rfl, by decide⟩
theorem dX6_readPart_290 : Dc cX6_readPart 290 (.aload_n 0) 1 291 := ⟨by decide +kernel, rfl⟩
theorem dX6_readPart_291 : Dc cX6_readPart 291 (.aload_n 0) 1 292 := ⟨by decide +kernel, rfl⟩
theorem dX6_readPart_292 : Dc cX6_readPart 292 (.bipush 48) 2 294 := ⟨by decide +kernel, rfl⟩
theorem dX6_readPart_294 : Dc cX6_readPart 294 (.bipush 51) 2 296 := ⟨by decide +kernel, rfl⟩
theorem dX6_readPart_296 : Dc cX6_readPart 296 (.invokevirtual 140) 3 299 := ⟨by decide +kernel, rfl⟩
theorem dX6_readPart_299 : Dc cX6_readPart 299 (.putfield 152) 3 302 := ⟨by decide +kernel, rfl⟩
theorem dX6_readPart_302 : Dc cX6_readPart 302 (.aload_n 0) 1 303 := ⟨by decide +kernel, rfl⟩
theorem dX6_readPart_303 : Dc cX6_readPart 303 (.bipush 61) 2 305 := ⟨by decide +kernel, rfl⟩
theorem dX6_readPart_305 : Dc cX6_readPart 305 (.bipush 61) 2 307 := ⟨by decide +kernel, rfl⟩
theorem dX6_readPart_307 : Dc cX6_readPart 307 (.invokevirtual 140) 3 310 := ⟨by decide +kernel, rfl⟩
theorem dX6_readPart_310 : Dc cX6_readPart 310 (.istore_n 1) 1 311 := ⟨by decide +kernel, rfl⟩
theorem dX6_readPart_311 : Dc cX6_readPart 311 (.aload_n 0) 1 312 := ⟨by decide +kernel, rfl⟩
theorem dX6_readPart_312 : Dc cX6_readPart 312 (.aload_n 0) 1 313 := ⟨by decide +kernel, rfl⟩
theorem dX6_readPart_313 : Dc cX6_readPart 313 (.sipush 400) 3 316 := ⟨by decide +kernel, rfl⟩
theorem dX6_readPart_316 : Dc cX6_readPart 316 (.sipush 1500) 3 319 := ⟨by decide +kernel, rfl⟩
theorem dX6_readPart_319 : Dc cX6_readPart 319 (.invokevirtual 149) 3 322 := ⟨by decide +kernel, rfl⟩
theorem dX6_readPart_322 : Dc cX6_readPart 322 (.putfield 155) 3 325 := ⟨by decide +kernel, rfl⟩
theorem dX6_readPart_325 : Dj cX6_readPart 325 (.goto 8) 3 328 (8) 333 := ⟨by decide +kernel, rfl, by decide⟩
theorem dX6_readPart_328 : Dc cX6_readPart 328 (.aload_n 0) 1 329 := ⟨by decide +kernel, rfl⟩
theorem dX6_readPart_329 : Dc cX6_readPart 329 (.iconst 0) 1 330 := ⟨by decide +kernel, rfl⟩
theorem dX6_readPart_330 : Dc cX6_readPart 330 (.putfield 152) 3 333 := ⟨by decide +kernel, rfl⟩
theorem dX6_readPart_333 : Dc cX6_readPart 333 (.return_) 1 334 := ⟨by decide +kernel, rfl⟩
def F_X6_readPart (o : OM) : Option (Unit × OM) := bd (fun (s_1 : Int32) => bd (wr o 19 0 10 s_1) (fun o_2 : OM => bd (fun (s_3 : Int32) => grd (isZ s_3) (bd (wr o_2 19 0 9 s_3) (fun o_4 : OM => bd (fun (s_5 : Int32) => bd (wr o_4 19 0 8 ((rd o_4 19 0 8) + s_5)) (fun o_6 : OM => bd (rd o_6 19 0 10) (fun t_7 : Int32 => bd (fun (o_8 : OM) => some ((), o_8)) (fun k333 => if t_7 = 98 then (bn (F_X6_takes o_6 ((48 : Int32)) ((51 : Int32))) (fun r_9 o_10 => bd (wr o_10 19 0 11 r_9) (fun o_11 : OM => bn (F_X6_takes o_11 ((61 : Int32)) ((61 : Int32))) (fun r_12 o_13 => bn (F_X6_signed o_13 ((400 : Int32)) ((1500 : Int32))) (fun r_14 o_15 => bd (wr o_15 19 0 12 r_14) (fun o_16 : OM => k333 o_16)))))) else (if t_7 = 99 then (bn (F_X6_takes o_6 ((48 : Int32)) ((53 : Int32))) (fun r_17 o_18 => bd (wr o_18 19 0 11 r_17) (fun o_19 : OM => bn (F_X6_takes o_19 ((58 : Int32)) ((58 : Int32))) (fun r_20 o_21 => bn (F_X6_takes o_21 ((48 : Int32)) ((51 : Int32))) (fun r_22 o_23 => bd (wr o_23 19 0 12 r_22) (fun o_24 : OM => k333 o_24)))))) else (if t_7 = 109 then (bn (F_X6_signed o_6 ((50 : Int32)) ((50 : Int32))) (fun r_25 o_26 => bd (wr o_26 19 0 11 r_25) (fun o_27 : OM => bn (F_X6_takes o_27 ((44 : Int32)) ((44 : Int32))) (fun r_28 o_29 => bn (F_X6_signed o_29 ((50 : Int32)) ((50 : Int32))) (fun r_30 o_31 => bd (wr o_31 19 0 12 r_30) (fun o_32 : OM => bn (F_X6_takes o_32 ((47 : Int32)) ((47 : Int32))) (fun r_33 o_34 => bn (F_X6_takes o_34 ((48 : Int32)) ((51 : Int32))) (fun r_35 o_36 => bd (wr o_36 19 0 13 r_35) (fun o_37 : OM => k333 o_37))))))))) else (if t_7 = 112 then (bn (F_X6_takes o_6 ((48 : Int32)) ((53 : Int32))) (fun r_38 o_39 => bd (wr o_39 19 0 11 r_38) (fun o_40 : OM => k333 o_40))) else (if t_7 = 121 then (bn (F_X6_number o_6 ((1 : Int32)) ((20 : Int32))) (fun r_41 o_42 => bd (wr o_42 19 0 11 r_41) (fun o_43 : OM => k333 o_43))) else (bd (wr o_6 19 0 11 ((0 : Int32))) (fun o_44 : OM => k333 o_44)))))))))) (fun k106 => if (rd o_4 19 0 9) = 0 then (k106 ((1 : Int32))) else (k106 ((0 : Int32))))))) (fun k86 => if (rd o_2 19 0 9) = 0 then (if (rd o_2 19 0 10) = ((109 : Int32)) then (k86 ((0 : Int32))) else (if (rd o_2 19 0 10) = ((99 : Int32)) then (k86 ((0 : Int32))) else (if (rd o_2 19 0 10) = ((121 : Int32)) then (k86 ((0 : Int32))) else (if (rd o_2 19 0 10) = ((112 : Int32)) then (k86 ((0 : Int32))) else (if (rd o_2 19 0 10) = ((98 : Int32)) then (k86 ((0 : Int32))) else (k86 ((1 : Int32)))))))) else (k86 ((1 : Int32)))))) (fun k25 => if (rd o 19 0 7) ≤ (rd o 19 0 8) then (k25 ((0 : Int32))) else (grd (inB (rd o 19 0 8) 60) (k25 (rd o 23 0 (rd o 19 0 8).toNatClampNeg))))
abbrev rmX6_readPart : Room := { frames := 5, cells := 0, slots := 0, locals := 113 }
set_option maxHeartbeats 4000000 in
set_option maxRecDepth 100000 in
theorem wX6_readPart {G : Gd} {p : Program} {l : Launch} {e : Env} {s : State} {m : MethodId} {args : Array Value} {below : List Frame} {meth : Method} {c : Code} {o : OM} {H : Heap} {L0 : List Loc} {ls : Array Slot} {r : Unit} {o9 : OM}  (C : Cx G RX6 cX6_readPart 2 none p s m args meth c)  (P : Hp G o s H L0) (hl : lv_has ls 2 [(0, .ref (rA G 19 0))]) (hf : F_X6_readPart o  = some (r, o9)) : W p l e rmX6_readPart s m args below meth c H L0 0 0 (Qm G none o9 rmX6_readPart below args s) (F0 m 0 ls []) := by
  unfold F_X6_readPart at hf
  refine r_aload_n C hl 0 rfl rfl dX6_readPart_0 ?_
  refine r_aload_n C hl 0 rfl rfl dX6_readPart_1 ?_
  refine gf_19_8 C P rfl wd_887 dX6_readPart_2 ?_
  refine r_aload_n C hl 0 rfl rfl dX6_readPart_5 ?_
  refine gf_19_7 C P rfl wd_886 dX6_readPart_6 ?_
  refine r_jn (fun k25 : Int32 → Option (Unit × OM) => ∀ (s_1 : Int32) H1 L1 ls, Hp G o s H1 L1 → lv_has ls 2 [(0, .ref (rA G 19 0))] → k25 s_1 = some (r, o9) → W p l e rmX6_readPart s m args below meth c H1 L1 0 0 (Qm G none o9 rmX6_readPart below args s) (F0 m 25 ls [.int s_1, .ref (rA G 19 0)])) hf ?_ (fun k25 j25 hf => ?_)
  · intro s_1 H1 L1 ls  P hl hf
    refine pf_19_10 C P rfl wd_889 dX6_readPart_25 hf (fun o_2 H1 L1 P hf => ?_)
    refine r_aload_n C hl 0 rfl rfl dX6_readPart_28 ?_
    refine r_aload_n C hl 0 rfl rfl dX6_readPart_29 ?_
    refine gf_19_9 C P rfl wd_888 dX6_readPart_30 ?_
    refine r_jn (fun k86 : Int32 → Option (Unit × OM) => ∀ (s_3 : Int32) H1 L1 ls, Hp G o_2 s H1 L1 → lv_has ls 2 [(0, .ref (rA G 19 0))] → k86 s_3 = some (r, o9) → W p l e rmX6_readPart s m args below meth c H1 L1 0 0 (Qm G none o9 rmX6_readPart below args s) (F0 m 86 ls [.int s_3, .ref (rA G 19 0)])) hf ?_ (fun k86 j86 hf => ?_)
    · intro s_3 H1 L1 ls  P hl hf
      refine pf_19_9 C P rfl wd_888 dX6_readPart_86 hf (fun o_4 H1 L1 P hf => ?_)
      refine r_aload_n C hl 0 rfl rfl dX6_readPart_89 ?_
      refine r_dup C rfl dX6_readPart_90 ?_
      refine gf_19_8 C P rfl wd_887 dX6_readPart_91 ?_
      refine r_aload_n C hl 0 rfl rfl dX6_readPart_94 ?_
      refine gf_19_9 C P rfl wd_888 dX6_readPart_95 ?_
      refine r_jn (fun k106 : Int32 → Option (Unit × OM) => ∀ (s_5 : Int32) H1 L1 ls, Hp G o_4 s H1 L1 → lv_has ls 2 [(0, .ref (rA G 19 0))] → k106 s_5 = some (r, o9) → W p l e rmX6_readPart s m args below meth c H1 L1 0 0 (Qm G none o9 rmX6_readPart below args s) (F0 m 106 ls [.int s_5, .int (rd o_4 19 0 8), .ref (rA G 19 0)])) hf ?_ (fun k106 j106 hf => ?_)
      · intro s_5 H1 L1 ls  P hl hf
        refine r_iadd2 C dX6_readPart_106 ?_
        refine pf_19_8 C P rfl wd_887 dX6_readPart_107 hf (fun o_6 H1 L1 P hf => ?_)
        refine r_iconst C (v := 0) (by decide) dX6_readPart_110 ?_
        refine r_istore_n C [(1, .int ((0 : Int32))), (0, .ref (rA G 19 0))] hl (by decide) rfl rfl dX6_readPart_111 (fun ls hl => ?_)
        refine r_aload_n C hl 1 rfl rfl dX6_readPart_112 ?_
        refine gf_19_10 C P rfl wd_889 dX6_readPart_113 ?_
        refine r_bdi hf (fun t_7 hf => ?_)
        refine r_jn (fun k333 : OM → Option (Unit × OM) => ∀ (o_8 : OM) H1 L1 ls, Hp G o_8 s H1 L1 → lv_has ls 2 [] → k333 o_8 = some (r, o9) → W p l e rmX6_readPart s m args below meth c H1 L1 0 0 (Qm G none o9 rmX6_readPart below args s) (F0 m 333 ls [])) hf ?_ (fun k333 j333 hf => ?_)
        · intro o_8 H1 L1 ls  P hl hf
          exact r_vret C P (rm := rmX6_readPart) ⟨rfl, rfl⟩ dX6_readPart_333 hf
        refine r_ite hf (fun hc0 hf => ?_) (fun hc0 hf => ?_)
        · refine lv_lookup C.1 C.2.1 (tgt := 290) dX6_readPart_116.1 (by decide) (by rw [hc0] <;> decide) rfl ?_
          refine r_aload_n C hl 1 rfl rfl dX6_readPart_290 ?_
          refine r_aload_n C hl 1 rfl rfl dX6_readPart_291 ?_
          refine r_bipush C (v := 48) (by decide) dX6_readPart_292 ?_
          refine r_bipush C (v := 51) (by decide) dX6_readPart_294 ?_
          refine r_cVi C P cf_X6_140 (rm := rmX6_takes) 19 0 (fun _ _ => ⟨_, rfl⟩) rfl rfl rfl [.int ((48 : Int32)), .int ((51 : Int32))] [.ref (rA G 19 0)] hf (fun _ _ h => ctX6_takes l G o_6 ((48 : Int32)) ((51 : Int32)) h) ⟨rfl, rfl⟩ ⟨Nat.le_of_ble_eq_true rfl, Nat.le_of_ble_eq_true rfl⟩ ⟨Nat.le_of_ble_eq_true rfl, Nat.le_of_ble_eq_true rfl⟩ rfl rfl hl.1 (Nat.le_of_ble_eq_true rfl) dX6_readPart_296 (fun r_9 o_10 H1 L1 P hf => ?_)
          refine pf_19_11 C P rfl wd_890 dX6_readPart_299 hf (fun o_11 H1 L1 P hf => ?_)
          refine r_aload_n C hl 1 rfl rfl dX6_readPart_302 ?_
          refine r_bipush C (v := 61) (by decide) dX6_readPart_303 ?_
          refine r_bipush C (v := 61) (by decide) dX6_readPart_305 ?_
          refine r_cVi C P cf_X6_140 (rm := rmX6_takes) 19 0 (fun _ _ => ⟨_, rfl⟩) rfl rfl rfl [.int ((61 : Int32)), .int ((61 : Int32))] [] hf (fun _ _ h => ctX6_takes l G o_11 ((61 : Int32)) ((61 : Int32)) h) ⟨rfl, rfl⟩ ⟨Nat.le_of_ble_eq_true rfl, Nat.le_of_ble_eq_true rfl⟩ ⟨Nat.le_of_ble_eq_true rfl, Nat.le_of_ble_eq_true rfl⟩ rfl rfl hl.1 (Nat.le_of_ble_eq_true rfl) dX6_readPart_307 (fun r_12 o_13 H1 L1 P hf => ?_)
          refine r_istore_n C [(1, .int r_12), (0, .ref (rA G 19 0))] hl (by decide) rfl rfl dX6_readPart_310 (fun ls hl => ?_)
          refine r_aload_n C hl 1 rfl rfl dX6_readPart_311 ?_
          refine r_aload_n C hl 1 rfl rfl dX6_readPart_312 ?_
          refine r_sipush C (v := 400) (by decide) dX6_readPart_313 ?_
          refine r_sipush C (v := 1500) (by decide) dX6_readPart_316 ?_
          refine r_cVi C P cf_X6_149 (rm := rmX6_signed) 19 0 (fun _ _ => ⟨_, rfl⟩) rfl rfl rfl [.int ((400 : Int32)), .int ((1500 : Int32))] [.ref (rA G 19 0)] hf (fun _ _ h => ctX6_signed l G o_13 ((400 : Int32)) ((1500 : Int32)) h) ⟨rfl, rfl⟩ ⟨Nat.le_of_ble_eq_true rfl, Nat.le_of_ble_eq_true rfl⟩ ⟨Nat.le_of_ble_eq_true rfl, Nat.le_of_ble_eq_true rfl⟩ rfl rfl hl.1 (Nat.le_of_ble_eq_true rfl) dX6_readPart_319 (fun r_14 o_15 H1 L1 P hf => ?_)
          refine pf_19_12 C P rfl wd_891 dX6_readPart_322 hf (fun o_16 H1 L1 P hf => ?_)
          refine r_goto C dX6_readPart_325 ?_
          exact j333 o_16 _ _ _ P (lv_sub hl [] rfl) hf
        · refine r_ite hf (fun hc1 hf => ?_) (fun hc1 hf => ?_)
          · refine lv_lookup C.1 C.2.1 (tgt := 225) dX6_readPart_116.1 (by decide) (by rw [hc1] <;> decide) rfl ?_
            refine r_aload_n C hl 1 rfl rfl dX6_readPart_225 ?_
            refine r_aload_n C hl 1 rfl rfl dX6_readPart_226 ?_
            refine r_bipush C (v := 48) (by decide) dX6_readPart_227 ?_
            refine r_bipush C (v := 53) (by decide) dX6_readPart_229 ?_
            refine r_cVi C P cf_X6_140 (rm := rmX6_takes) 19 0 (fun _ _ => ⟨_, rfl⟩) rfl rfl rfl [.int ((48 : Int32)), .int ((53 : Int32))] [.ref (rA G 19 0)] hf (fun _ _ h => ctX6_takes l G o_6 ((48 : Int32)) ((53 : Int32)) h) ⟨rfl, rfl⟩ ⟨Nat.le_of_ble_eq_true rfl, Nat.le_of_ble_eq_true rfl⟩ ⟨Nat.le_of_ble_eq_true rfl, Nat.le_of_ble_eq_true rfl⟩ rfl rfl hl.1 (Nat.le_of_ble_eq_true rfl) dX6_readPart_231 (fun r_17 o_18 H1 L1 P hf => ?_)
            refine pf_19_11 C P rfl wd_890 dX6_readPart_234 hf (fun o_19 H1 L1 P hf => ?_)
            refine r_aload_n C hl 1 rfl rfl dX6_readPart_237 ?_
            refine r_bipush C (v := 58) (by decide) dX6_readPart_238 ?_
            refine r_bipush C (v := 58) (by decide) dX6_readPart_240 ?_
            refine r_cVi C P cf_X6_140 (rm := rmX6_takes) 19 0 (fun _ _ => ⟨_, rfl⟩) rfl rfl rfl [.int ((58 : Int32)), .int ((58 : Int32))] [] hf (fun _ _ h => ctX6_takes l G o_19 ((58 : Int32)) ((58 : Int32)) h) ⟨rfl, rfl⟩ ⟨Nat.le_of_ble_eq_true rfl, Nat.le_of_ble_eq_true rfl⟩ ⟨Nat.le_of_ble_eq_true rfl, Nat.le_of_ble_eq_true rfl⟩ rfl rfl hl.1 (Nat.le_of_ble_eq_true rfl) dX6_readPart_242 (fun r_20 o_21 H1 L1 P hf => ?_)
            refine r_istore_n C [(1, .int r_20), (0, .ref (rA G 19 0))] hl (by decide) rfl rfl dX6_readPart_245 (fun ls hl => ?_)
            refine r_aload_n C hl 1 rfl rfl dX6_readPart_246 ?_
            refine r_aload_n C hl 1 rfl rfl dX6_readPart_247 ?_
            refine r_bipush C (v := 48) (by decide) dX6_readPart_248 ?_
            refine r_bipush C (v := 51) (by decide) dX6_readPart_250 ?_
            refine r_cVi C P cf_X6_140 (rm := rmX6_takes) 19 0 (fun _ _ => ⟨_, rfl⟩) rfl rfl rfl [.int ((48 : Int32)), .int ((51 : Int32))] [.ref (rA G 19 0)] hf (fun _ _ h => ctX6_takes l G o_21 ((48 : Int32)) ((51 : Int32)) h) ⟨rfl, rfl⟩ ⟨Nat.le_of_ble_eq_true rfl, Nat.le_of_ble_eq_true rfl⟩ ⟨Nat.le_of_ble_eq_true rfl, Nat.le_of_ble_eq_true rfl⟩ rfl rfl hl.1 (Nat.le_of_ble_eq_true rfl) dX6_readPart_252 (fun r_22 o_23 H1 L1 P hf => ?_)
            refine pf_19_12 C P rfl wd_891 dX6_readPart_255 hf (fun o_24 H1 L1 P hf => ?_)
            refine r_goto C dX6_readPart_258 ?_
            exact j333 o_24 _ _ _ P (lv_sub hl [] rfl) hf
          · refine r_ite hf (fun hc2 hf => ?_) (fun hc2 hf => ?_)
            · refine lv_lookup C.1 C.2.1 (tgt := 168) dX6_readPart_116.1 (by decide) (by rw [hc2] <;> decide) rfl ?_
              refine r_aload_n C hl 1 rfl rfl dX6_readPart_168 ?_
              refine r_aload_n C hl 1 rfl rfl dX6_readPart_169 ?_
              refine r_bipush C (v := 50) (by decide) dX6_readPart_170 ?_
              refine r_bipush C (v := 50) (by decide) dX6_readPart_172 ?_
              refine r_cVi C P cf_X6_149 (rm := rmX6_signed) 19 0 (fun _ _ => ⟨_, rfl⟩) rfl rfl rfl [.int ((50 : Int32)), .int ((50 : Int32))] [.ref (rA G 19 0)] hf (fun _ _ h => ctX6_signed l G o_6 ((50 : Int32)) ((50 : Int32)) h) ⟨rfl, rfl⟩ ⟨Nat.le_of_ble_eq_true rfl, Nat.le_of_ble_eq_true rfl⟩ ⟨Nat.le_of_ble_eq_true rfl, Nat.le_of_ble_eq_true rfl⟩ rfl rfl hl.1 (Nat.le_of_ble_eq_true rfl) dX6_readPart_174 (fun r_25 o_26 H1 L1 P hf => ?_)
              refine pf_19_11 C P rfl wd_890 dX6_readPart_177 hf (fun o_27 H1 L1 P hf => ?_)
              refine r_aload_n C hl 1 rfl rfl dX6_readPart_180 ?_
              refine r_bipush C (v := 44) (by decide) dX6_readPart_181 ?_
              refine r_bipush C (v := 44) (by decide) dX6_readPart_183 ?_
              refine r_cVi C P cf_X6_140 (rm := rmX6_takes) 19 0 (fun _ _ => ⟨_, rfl⟩) rfl rfl rfl [.int ((44 : Int32)), .int ((44 : Int32))] [] hf (fun _ _ h => ctX6_takes l G o_27 ((44 : Int32)) ((44 : Int32)) h) ⟨rfl, rfl⟩ ⟨Nat.le_of_ble_eq_true rfl, Nat.le_of_ble_eq_true rfl⟩ ⟨Nat.le_of_ble_eq_true rfl, Nat.le_of_ble_eq_true rfl⟩ rfl rfl hl.1 (Nat.le_of_ble_eq_true rfl) dX6_readPart_185 (fun r_28 o_29 H1 L1 P hf => ?_)
              refine r_istore_n C [(1, .int r_28), (0, .ref (rA G 19 0))] hl (by decide) rfl rfl dX6_readPart_188 (fun ls hl => ?_)
              refine r_aload_n C hl 1 rfl rfl dX6_readPart_189 ?_
              refine r_aload_n C hl 1 rfl rfl dX6_readPart_190 ?_
              refine r_bipush C (v := 50) (by decide) dX6_readPart_191 ?_
              refine r_bipush C (v := 50) (by decide) dX6_readPart_193 ?_
              refine r_cVi C P cf_X6_149 (rm := rmX6_signed) 19 0 (fun _ _ => ⟨_, rfl⟩) rfl rfl rfl [.int ((50 : Int32)), .int ((50 : Int32))] [.ref (rA G 19 0)] hf (fun _ _ h => ctX6_signed l G o_29 ((50 : Int32)) ((50 : Int32)) h) ⟨rfl, rfl⟩ ⟨Nat.le_of_ble_eq_true rfl, Nat.le_of_ble_eq_true rfl⟩ ⟨Nat.le_of_ble_eq_true rfl, Nat.le_of_ble_eq_true rfl⟩ rfl rfl hl.1 (Nat.le_of_ble_eq_true rfl) dX6_readPart_195 (fun r_30 o_31 H1 L1 P hf => ?_)
              refine pf_19_12 C P rfl wd_891 dX6_readPart_198 hf (fun o_32 H1 L1 P hf => ?_)
              refine r_aload_n C hl 1 rfl rfl dX6_readPart_201 ?_
              refine r_bipush C (v := 47) (by decide) dX6_readPart_202 ?_
              refine r_bipush C (v := 47) (by decide) dX6_readPart_204 ?_
              refine r_cVi C P cf_X6_140 (rm := rmX6_takes) 19 0 (fun _ _ => ⟨_, rfl⟩) rfl rfl rfl [.int ((47 : Int32)), .int ((47 : Int32))] [] hf (fun _ _ h => ctX6_takes l G o_32 ((47 : Int32)) ((47 : Int32)) h) ⟨rfl, rfl⟩ ⟨Nat.le_of_ble_eq_true rfl, Nat.le_of_ble_eq_true rfl⟩ ⟨Nat.le_of_ble_eq_true rfl, Nat.le_of_ble_eq_true rfl⟩ rfl rfl hl.1 (Nat.le_of_ble_eq_true rfl) dX6_readPart_206 (fun r_33 o_34 H1 L1 P hf => ?_)
              refine r_istore_n C [(1, .int r_33), (0, .ref (rA G 19 0))] hl (by decide) rfl rfl dX6_readPart_209 (fun ls hl => ?_)
              refine r_aload_n C hl 1 rfl rfl dX6_readPart_210 ?_
              refine r_aload_n C hl 1 rfl rfl dX6_readPart_211 ?_
              refine r_bipush C (v := 48) (by decide) dX6_readPart_212 ?_
              refine r_bipush C (v := 51) (by decide) dX6_readPart_214 ?_
              refine r_cVi C P cf_X6_140 (rm := rmX6_takes) 19 0 (fun _ _ => ⟨_, rfl⟩) rfl rfl rfl [.int ((48 : Int32)), .int ((51 : Int32))] [.ref (rA G 19 0)] hf (fun _ _ h => ctX6_takes l G o_34 ((48 : Int32)) ((51 : Int32)) h) ⟨rfl, rfl⟩ ⟨Nat.le_of_ble_eq_true rfl, Nat.le_of_ble_eq_true rfl⟩ ⟨Nat.le_of_ble_eq_true rfl, Nat.le_of_ble_eq_true rfl⟩ rfl rfl hl.1 (Nat.le_of_ble_eq_true rfl) dX6_readPart_216 (fun r_35 o_36 H1 L1 P hf => ?_)
              refine pf_19_13 C P rfl wd_892 dX6_readPart_219 hf (fun o_37 H1 L1 P hf => ?_)
              refine r_goto C dX6_readPart_222 ?_
              exact j333 o_37 _ _ _ P (lv_sub hl [] rfl) hf
            · refine r_ite hf (fun hc3 hf => ?_) (fun hc3 hf => ?_)
              · refine lv_lookup C.1 C.2.1 (tgt := 275) dX6_readPart_116.1 (by decide) (by rw [hc3] <;> decide) rfl ?_
                refine r_aload_n C hl 1 rfl rfl dX6_readPart_275 ?_
                refine r_aload_n C hl 1 rfl rfl dX6_readPart_276 ?_
                refine r_bipush C (v := 48) (by decide) dX6_readPart_277 ?_
                refine r_bipush C (v := 53) (by decide) dX6_readPart_279 ?_
                refine r_cVi C P cf_X6_140 (rm := rmX6_takes) 19 0 (fun _ _ => ⟨_, rfl⟩) rfl rfl rfl [.int ((48 : Int32)), .int ((53 : Int32))] [.ref (rA G 19 0)] hf (fun _ _ h => ctX6_takes l G o_6 ((48 : Int32)) ((53 : Int32)) h) ⟨rfl, rfl⟩ ⟨Nat.le_of_ble_eq_true rfl, Nat.le_of_ble_eq_true rfl⟩ ⟨Nat.le_of_ble_eq_true rfl, Nat.le_of_ble_eq_true rfl⟩ rfl rfl hl.1 (Nat.le_of_ble_eq_true rfl) dX6_readPart_281 (fun r_38 o_39 H1 L1 P hf => ?_)
                refine pf_19_11 C P rfl wd_890 dX6_readPart_284 hf (fun o_40 H1 L1 P hf => ?_)
                refine r_goto C dX6_readPart_287 ?_
                exact j333 o_40 _ _ _ P (lv_sub hl [] rfl) hf
              · refine r_ite hf (fun hc4 hf => ?_) (fun hc4 hf => ?_)
                · refine lv_lookup C.1 C.2.1 (tgt := 261) dX6_readPart_116.1 (by decide) (by rw [hc4] <;> decide) rfl ?_
                  refine r_aload_n C hl 1 rfl rfl dX6_readPart_261 ?_
                  refine r_aload_n C hl 1 rfl rfl dX6_readPart_262 ?_
                  refine r_iconst C (v := 1) (by decide) dX6_readPart_263 ?_
                  refine r_bipush C (v := 20) (by decide) dX6_readPart_264 ?_
                  refine r_cVi C P cf_X6_143 (rm := rmX6_number) 19 0 (fun _ _ => ⟨_, rfl⟩) rfl rfl rfl [.int ((1 : Int32)), .int ((20 : Int32))] [.ref (rA G 19 0)] hf (fun _ _ h => ctX6_number l G o_6 ((1 : Int32)) ((20 : Int32)) h) ⟨rfl, rfl⟩ ⟨Nat.le_of_ble_eq_true rfl, Nat.le_of_ble_eq_true rfl⟩ ⟨Nat.le_of_ble_eq_true rfl, Nat.le_of_ble_eq_true rfl⟩ rfl rfl hl.1 (Nat.le_of_ble_eq_true rfl) dX6_readPart_266 (fun r_41 o_42 H1 L1 P hf => ?_)
                  refine pf_19_11 C P rfl wd_890 dX6_readPart_269 hf (fun o_43 H1 L1 P hf => ?_)
                  refine r_goto C dX6_readPart_272 ?_
                  exact j333 o_43 _ _ _ P (lv_sub hl [] rfl) hf
                · refine lv_lookup C.1 C.2.1 (tgt := 328) dX6_readPart_116.1 (by decide) ((lv_osw hc0 rfl).trans ((lv_osw hc1 rfl).trans ((lv_osw hc2 rfl).trans ((lv_osw hc3 rfl).trans ((lv_osw hc4 rfl).trans rfl))))) rfl ?_
                  refine r_aload_n C hl 1 rfl rfl dX6_readPart_328 ?_
                  refine r_iconst C (v := 0) (by decide) dX6_readPart_329 ?_
                  refine pf_19_11 C P rfl wd_890 dX6_readPart_330 hf (fun o_44 H1 L1 P hf => ?_)
                  exact j333 o_44 _ _ _ P (lv_sub hl [] rfl) hf
      refine r_if_eq C dX6_readPart_98 hf (fun hf => ?_) (fun hf => ?_)
      · refine r_iconst C (v := 1) (by decide) dX6_readPart_105 ?_
        exact j106 ((1 : Int32)) _ _ _ P (lv_sub hl [0] rfl) hf
      · refine r_iconst C (v := 0) (by decide) dX6_readPart_101 ?_
        refine r_goto C dX6_readPart_102 ?_
        exact j106 ((0 : Int32)) _ _ _ P (lv_sub hl [0] rfl) hf
    refine r_if_ne C dX6_readPart_33 hf (fun hf => ?_) (fun hf => ?_)
    · refine r_iconst C (v := 1) (by decide) dX6_readPart_81 ?_
      refine r_goto C dX6_readPart_82 ?_
      exact j86 ((1 : Int32)) _ _ _ P (lv_sub hl [0] rfl) hf
    · refine r_aload_n C hl 0 rfl rfl dX6_readPart_36 ?_
      refine gf_19_10 C P rfl wd_889 dX6_readPart_37 ?_
      refine r_bipush C (v := 109) (by decide) dX6_readPart_40 ?_
      refine r_icmp_eq C dX6_readPart_42 hf (fun hf => ?_) (fun hf => ?_)
      · refine r_iconst C (v := 0) (by decide) dX6_readPart_85 ?_
        exact j86 ((0 : Int32)) _ _ _ P (lv_sub hl [0] rfl) hf
      · refine r_aload_n C hl 0 rfl rfl dX6_readPart_45 ?_
        refine gf_19_10 C P rfl wd_889 dX6_readPart_46 ?_
        refine r_bipush C (v := 99) (by decide) dX6_readPart_49 ?_
        refine r_icmp_eq C dX6_readPart_51 hf (fun hf => ?_) (fun hf => ?_)
        · refine r_iconst C (v := 0) (by decide) dX6_readPart_85 ?_
          exact j86 ((0 : Int32)) _ _ _ P (lv_sub hl [0] rfl) hf
        · refine r_aload_n C hl 0 rfl rfl dX6_readPart_54 ?_
          refine gf_19_10 C P rfl wd_889 dX6_readPart_55 ?_
          refine r_bipush C (v := 121) (by decide) dX6_readPart_58 ?_
          refine r_icmp_eq C dX6_readPart_60 hf (fun hf => ?_) (fun hf => ?_)
          · refine r_iconst C (v := 0) (by decide) dX6_readPart_85 ?_
            exact j86 ((0 : Int32)) _ _ _ P (lv_sub hl [0] rfl) hf
          · refine r_aload_n C hl 0 rfl rfl dX6_readPart_63 ?_
            refine gf_19_10 C P rfl wd_889 dX6_readPart_64 ?_
            refine r_bipush C (v := 112) (by decide) dX6_readPart_67 ?_
            refine r_icmp_eq C dX6_readPart_69 hf (fun hf => ?_) (fun hf => ?_)
            · refine r_iconst C (v := 0) (by decide) dX6_readPart_85 ?_
              exact j86 ((0 : Int32)) _ _ _ P (lv_sub hl [0] rfl) hf
            · refine r_aload_n C hl 0 rfl rfl dX6_readPart_72 ?_
              refine gf_19_10 C P rfl wd_889 dX6_readPart_73 ?_
              refine r_bipush C (v := 98) (by decide) dX6_readPart_76 ?_
              refine r_icmp_eq C dX6_readPart_78 hf (fun hf => ?_) (fun hf => ?_)
              · refine r_iconst C (v := 0) (by decide) dX6_readPart_85 ?_
                exact j86 ((0 : Int32)) _ _ _ P (lv_sub hl [0] rfl) hf
              · refine r_iconst C (v := 1) (by decide) dX6_readPart_81 ?_
                refine r_goto C dX6_readPart_82 ?_
                exact j86 ((1 : Int32)) _ _ _ P (lv_sub hl [0] rfl) hf
  refine r_icmp_ge C dX6_readPart_9 hf (fun hf => ?_) (fun hf => ?_)
  · refine r_iconst C (v := 0) (by decide) dX6_readPart_24 ?_
    exact j25 ((0 : Int32)) _ _ _ P (lv_sub hl [0] rfl) hf
  · refine r_aload_n C hl 0 rfl rfl dX6_readPart_12 ?_
    refine gf_19_6 C P rfl wd_885 dX6_readPart_13 ?_
    refine r_aload_n C hl 0 rfl rfl dX6_readPart_16 ?_
    refine gf_19_8 C P rfl wd_887 dX6_readPart_17 ?_
    refine r_iald C P (k := 23) (i := 0) (n := 60) (fun _ _ => rfl) rfl dX6_readPart_20 hf (fun hf => ?_)
    refine r_goto C dX6_readPart_21 ?_
    exact j25 (rd o 23 0 (rd o 19 0 8).toNatClampNeg) _ _ _ P (lv_sub hl [0] rfl) hf
theorem ctX6_readPart (l : Launch) (G : Gd) (o : OM)   {r : Unit} {o9 : OM} (hf : F_X6_readPart o  = some (r, o9)) : Ct l yX6_readPart cX6_readPart 2 none rmX6_readPart G [.ref (rA G 19 0)] o none o9 := ct_of (by decide +kernel) (Nat.le_of_ble_eq_true rfl) (fun p e s m below meth c ls C P hl => wX6_readPart C  P hl hf)
theorem dX6_reasonOfPart_0 : Dc cX6_reasonOfPart 0 (.aload_n 0) 1 1 := ⟨by decide +kernel, rfl⟩
theorem dX6_reasonOfPart_1 : Dc cX6_reasonOfPart 1 (.getfield 146) 3 4 := ⟨by decide +kernel, rfl⟩
theorem dX6_reasonOfPart_4 : Dc cX6_reasonOfPart 4 (.lookupswitch 110 #[(99, 56), (109, 36), (112, 85)]) 36 40 := ⟨by decide +kernel, rfl⟩
theorem dX6_reasonOfPart_40 : Dc cX6_reasonOfPart 40 (.aload_n 0) 1 41 := ⟨by decide +kernel, rfl⟩
theorem dX6_reasonOfPart_41 : Dc cX6_reasonOfPart 41 (.getfield 7) 3 44 := ⟨by decide +kernel, rfl⟩
theorem dX6_reasonOfPart_44 : Dc cX6_reasonOfPart 44 (.sipush 228) 3 47 := ⟨by decide +kernel, rfl⟩
theorem dX6_reasonOfPart_47 : Dc cX6_reasonOfPart 47 (.iaload) 1 48 := ⟨by decide +kernel, rfl⟩
theorem dX6_reasonOfPart_48 : Dc cX6_reasonOfPart 48 (.bipush 6) 2 50 := ⟨by decide +kernel, rfl⟩
theorem dX6_reasonOfPart_50 : Dj cX6_reasonOfPart 50 (.if_icmp .ne 8) 3 53 (8) 58 := ⟨by decide +kernel, rfl, by decide⟩
theorem dX6_reasonOfPart_53 : Dc cX6_reasonOfPart 53 (.bipush 8) 2 55 := ⟨by decide +kernel, rfl⟩
theorem dX6_reasonOfPart_55 : Dj cX6_reasonOfPart 55 (.goto 4) 3 58 (4) 59 := ⟨by decide +kernel, rfl, by decide⟩
theorem dX6_reasonOfPart_58 : Dc cX6_reasonOfPart 58 (.iconst 0) 1 59 := ⟨by decide +kernel, rfl⟩
theorem dX6_reasonOfPart_59 : Dc cX6_reasonOfPart 59 (.ireturn) 1 60 := ⟨by decide +kernel, rfl⟩
theorem dX6_reasonOfPart_60 : Dc cX6_reasonOfPart 60 (.aload_n 0) 1 61 := ⟨by decide +kernel, rfl⟩
theorem dX6_reasonOfPart_61 : Dc cX6_reasonOfPart 61 (.aload_n 0) 1 62 := ⟨by decide +kernel, rfl⟩
theorem dX6_reasonOfPart_62 : Dc cX6_reasonOfPart 62 (.getfield 152) 3 65 := ⟨by decide +kernel, rfl⟩
theorem dX6_reasonOfPart_65 : Dc cX6_reasonOfPart 65 (.invokevirtual 96) 3 68 := ⟨by decide +kernel, rfl⟩
theorem dX6_reasonOfPart_68 : Dj cX6_reasonOfPart 68 (.ifCond .eq 18) 3 71 (18) 86 := ⟨by decide +kernel, rfl, by decide⟩
theorem dX6_reasonOfPart_71 : Dc cX6_reasonOfPart 71 (.aload_n 0) 1 72 := ⟨by decide +kernel, rfl⟩
theorem dX6_reasonOfPart_72 : Dc cX6_reasonOfPart 72 (.aload_n 0) 1 73 := ⟨by decide +kernel, rfl⟩
theorem dX6_reasonOfPart_73 : Dc cX6_reasonOfPart 73 (.getfield 152) 3 76 := ⟨by decide +kernel, rfl⟩
theorem dX6_reasonOfPart_76 : Dc cX6_reasonOfPart 76 (.aload_n 0) 1 77 := ⟨by decide +kernel, rfl⟩
theorem dX6_reasonOfPart_77 : Dc cX6_reasonOfPart 77 (.getfield 155) 3 80 := ⟨by decide +kernel, rfl⟩
theorem dX6_reasonOfPart_80 : Dc cX6_reasonOfPart 80 (.invokevirtual 115) 3 83 := ⟨by decide +kernel, rfl⟩
theorem dX6_reasonOfPart_83 : Dj cX6_reasonOfPart 83 (.goto 5) 3 86 (5) 88 := ⟨by decide +kernel, rfl, by decide⟩
theorem dX6_reasonOfPart_86 : Dc cX6_reasonOfPart 86 (.bipush 7) 2 88 := ⟨by decide +kernel, rfl⟩
theorem dX6_reasonOfPart_88 : Dc cX6_reasonOfPart 88 (.ireturn) 1 89 := ⟨by decide +kernel, rfl⟩
theorem dX6_reasonOfPart_89 : Dc cX6_reasonOfPart 89 (.aload_n 0) 1 90 := ⟨by decide +kernel, rfl⟩
theorem dX6_reasonOfPart_90 : Dc cX6_reasonOfPart 90 (.aload_n 0) 1 91 := ⟨by decide +kernel, rfl⟩
theorem dX6_reasonOfPart_91 : Dc cX6_reasonOfPart 91 (.getfield 152) 3 94 := ⟨by decide +kernel, rfl⟩
theorem dX6_reasonOfPart_94 : Dc cX6_reasonOfPart 94 (.invokevirtual 96) 3 97 := ⟨by decide +kernel, rfl⟩
theorem dX6_reasonOfPart_97 : Dj cX6_reasonOfPart 97 (.ifCond .eq 14) 3 100 (14) 111 := ⟨by decide +kernel, rfl, by decide⟩
theorem dX6_reasonOfPart_100 : Dc cX6_reasonOfPart 100 (.aload_n 0) 1 101 := ⟨by decide +kernel, rfl⟩
theorem dX6_reasonOfPart_101 : Dc cX6_reasonOfPart 101 (.aload_n 0) 1 102 := ⟨by decide +kernel, rfl⟩
theorem dX6_reasonOfPart_102 : Dc cX6_reasonOfPart 102 (.getfield 152) 3 105 := ⟨by decide +kernel, rfl⟩
theorem dX6_reasonOfPart_105 : Dc cX6_reasonOfPart 105 (.invokevirtual 121) 3 108 := ⟨by decide +kernel, rfl⟩
theorem dX6_reasonOfPart_108 : Dj cX6_reasonOfPart 108 (.goto 5) 3 111 (5) 113 := ⟨by decide +kernel, rfl, by decide⟩
theorem dX6_reasonOfPart_111 : Dc cX6_reasonOfPart 111 (.bipush 7) 2 113 := ⟨by decide +kernel, rfl⟩
theorem dX6_reasonOfPart_113 : Dc cX6_reasonOfPart 113 (.ireturn) 1 114 := ⟨by decide +kernel, rfl⟩
theorem dX6_reasonOfPart_114 : Dc cX6_reasonOfPart 114 (.iconst 0) 1 115 := ⟨by decide +kernel, rfl⟩
theorem dX6_reasonOfPart_115 : Dc cX6_reasonOfPart 115 (.ireturn) 1 116 := ⟨by decide +kernel, rfl⟩
def F_X6_reasonOfPart (o : OM) : Option Int32 := bd (rd o 19 0 10) (fun t_1 : Int32 => if t_1 = 99 then (bq (F_X6_isThere o (rd o 19 0 11)) (fun r_2 => bd (fun (s_3 : Int32) => some s_3) (fun k88 => if r_2 = 0 then (k88 ((7 : Int32))) else (bq (F_X6_hindrance o (rd o 19 0 11) (rd o 19 0 12)) (fun r_4 => k88 r_4))))) else (if t_1 = 109 then (grd (inB ((228 : Int32)) 244) (bd (fun (s_5 : Int32) => some s_5) (fun k59 => if (rd o 20 0 ((228 : Int32)).toNatClampNeg) = ((6 : Int32)) then (k59 ((8 : Int32))) else (k59 ((0 : Int32)))))) else (if t_1 = 112 then (bq (F_X6_isThere o (rd o 19 0 11)) (fun r_6 => bd (fun (s_7 : Int32) => some s_7) (fun k113 => if r_6 = 0 then (k113 ((7 : Int32))) else (bq (F_X6_refusal o (rd o 19 0 11)) (fun r_8 => k113 r_8))))) else (some ((0 : Int32))))))
abbrev rmX6_reasonOfPart : Room := { frames := 7, cells := 0, slots := 0, locals := 168 }
set_option maxHeartbeats 4000000 in
set_option maxRecDepth 100000 in
theorem wX6_reasonOfPart {G : Gd} {p : Program} {l : Launch} {e : Env} {s : State} {m : MethodId} {args : Array Value} {below : List Frame} {meth : Method} {c : Code} {o : OM} {H : Heap} {L0 : List Loc} {ls : Array Slot} {r : Int32}  (C : Cx G RX6 cX6_reasonOfPart 1 (some .int) p s m args meth c)  (P : Hp G o s H L0) (hl : lv_has ls 1 [(0, .ref (rA G 19 0))]) (hf : F_X6_reasonOfPart o  = some r) : W p l e rmX6_reasonOfPart s m args below meth c H L0 0 0 (Qm G (some (.int r)) o rmX6_reasonOfPart below args s) (F0 m 0 ls []) := by
  unfold F_X6_reasonOfPart at hf
  refine r_aload_n C hl 0 rfl rfl dX6_reasonOfPart_0 ?_
  refine gf_19_10 C P rfl wd_889 dX6_reasonOfPart_1 ?_
  refine r_bdi hf (fun t_1 hf => ?_)
  refine r_ite hf (fun hc0 hf => ?_) (fun hc0 hf => ?_)
  · refine lv_lookup C.1 C.2.1 (tgt := 60) dX6_reasonOfPart_4.1 (by decide) (by rw [hc0] <;> decide) rfl ?_
    refine r_aload_n C hl 0 rfl rfl dX6_reasonOfPart_60 ?_
    refine r_aload_n C hl 0 rfl rfl dX6_reasonOfPart_61 ?_
    refine gf_19_11 C P rfl wd_890 dX6_reasonOfPart_62 ?_
    refine r_qVi C P cf_X6_96 (rm := rmX6_isThere) 19 0 (fun _ _ => ⟨_, rfl⟩) rfl rfl rfl [.int (rd o 19 0 11)] [] hf (fun _ h => ctX6_isThere l G o (rd o 19 0 11) h) ⟨rfl, rfl⟩ ⟨Nat.le_of_ble_eq_true rfl, Nat.le_of_ble_eq_true rfl⟩ ⟨Nat.le_of_ble_eq_true rfl, Nat.le_of_ble_eq_true rfl⟩ rfl rfl hl.1 (Nat.le_of_ble_eq_true rfl) dX6_reasonOfPart_65 (fun r_2 H1 L1 P hf => ?_)
    refine r_jn (fun k88 : Int32 → Option Int32 => ∀ (s_3 : Int32) H1 L1 ls, Hp G o s H1 L1 → lv_has ls 1 [] → k88 s_3 = some r → W p l e rmX6_reasonOfPart s m args below meth c H1 L1 0 0 (Qm G (some (.int r)) o rmX6_reasonOfPart below args s) (F0 m 88 ls [.int s_3])) hf ?_ (fun k88 j88 hf => ?_)
    · intro s_3 H1 L1 ls  P hl hf
      exact q_iret C P (rm := rmX6_reasonOfPart) ⟨rfl, rfl⟩ dX6_reasonOfPart_88 hf
    refine r_if_eq C dX6_reasonOfPart_68 hf (fun hf => ?_) (fun hf => ?_)
    · refine r_bipush C (v := 7) (by decide) dX6_reasonOfPart_86 ?_
      exact j88 ((7 : Int32)) _ _ _ P (lv_sub hl [] rfl) hf
    · refine r_aload_n C hl 0 rfl rfl dX6_reasonOfPart_71 ?_
      refine r_aload_n C hl 0 rfl rfl dX6_reasonOfPart_72 ?_
      refine gf_19_11 C P rfl wd_890 dX6_reasonOfPart_73 ?_
      refine r_aload_n C hl 0 rfl rfl dX6_reasonOfPart_76 ?_
      refine gf_19_12 C P rfl wd_891 dX6_reasonOfPart_77 ?_
      refine r_qVi C P cf_X6_115 (rm := rmX6_hindrance) 19 0 (fun _ _ => ⟨_, rfl⟩) rfl rfl rfl [.int (rd o 19 0 11), .int (rd o 19 0 12)] [] hf (fun _ h => ctX6_hindrance l G o (rd o 19 0 11) (rd o 19 0 12) h) ⟨rfl, rfl⟩ ⟨Nat.le_of_ble_eq_true rfl, Nat.le_of_ble_eq_true rfl⟩ ⟨Nat.le_of_ble_eq_true rfl, Nat.le_of_ble_eq_true rfl⟩ rfl rfl hl.1 (Nat.le_of_ble_eq_true rfl) dX6_reasonOfPart_80 (fun r_4 H1 L1 P hf => ?_)
      refine r_goto C dX6_reasonOfPart_83 ?_
      exact j88 r_4 _ _ _ P (lv_sub hl [] rfl) hf
  · refine r_ite hf (fun hc1 hf => ?_) (fun hc1 hf => ?_)
    · refine lv_lookup C.1 C.2.1 (tgt := 40) dX6_reasonOfPart_4.1 (by decide) (by rw [hc1] <;> decide) rfl ?_
      refine r_aload_n C hl 0 rfl rfl dX6_reasonOfPart_40 ?_
      refine gf_19_1 C P rfl wd_880 dX6_reasonOfPart_41 ?_
      refine r_sipush C (v := 228) (by decide) dX6_reasonOfPart_44 ?_
      refine r_iald C P (k := 20) (i := 0) (n := 244) (fun _ _ => rfl) rfl dX6_reasonOfPart_47 hf (fun hf => ?_)
      refine r_bipush C (v := 6) (by decide) dX6_reasonOfPart_48 ?_
      refine r_jn (fun k59 : Int32 → Option Int32 => ∀ (s_5 : Int32) H1 L1 ls, Hp G o s H1 L1 → lv_has ls 1 [] → k59 s_5 = some r → W p l e rmX6_reasonOfPart s m args below meth c H1 L1 0 0 (Qm G (some (.int r)) o rmX6_reasonOfPart below args s) (F0 m 59 ls [.int s_5])) hf ?_ (fun k59 j59 hf => ?_)
      · intro s_5 H1 L1 ls  P hl hf
        exact q_iret C P (rm := rmX6_reasonOfPart) ⟨rfl, rfl⟩ dX6_reasonOfPart_59 hf
      refine r_icmp_ne C dX6_reasonOfPart_50 hf (fun hf => ?_) (fun hf => ?_)
      · refine r_iconst C (v := 0) (by decide) dX6_reasonOfPart_58 ?_
        exact j59 ((0 : Int32)) _ _ _ P (lv_sub hl [] rfl) hf
      · refine r_bipush C (v := 8) (by decide) dX6_reasonOfPart_53 ?_
        refine r_goto C dX6_reasonOfPart_55 ?_
        exact j59 ((8 : Int32)) _ _ _ P (lv_sub hl [] rfl) hf
    · refine r_ite hf (fun hc2 hf => ?_) (fun hc2 hf => ?_)
      · refine lv_lookup C.1 C.2.1 (tgt := 89) dX6_reasonOfPart_4.1 (by decide) (by rw [hc2] <;> decide) rfl ?_
        refine r_aload_n C hl 0 rfl rfl dX6_reasonOfPart_89 ?_
        refine r_aload_n C hl 0 rfl rfl dX6_reasonOfPart_90 ?_
        refine gf_19_11 C P rfl wd_890 dX6_reasonOfPart_91 ?_
        refine r_qVi C P cf_X6_96 (rm := rmX6_isThere) 19 0 (fun _ _ => ⟨_, rfl⟩) rfl rfl rfl [.int (rd o 19 0 11)] [] hf (fun _ h => ctX6_isThere l G o (rd o 19 0 11) h) ⟨rfl, rfl⟩ ⟨Nat.le_of_ble_eq_true rfl, Nat.le_of_ble_eq_true rfl⟩ ⟨Nat.le_of_ble_eq_true rfl, Nat.le_of_ble_eq_true rfl⟩ rfl rfl hl.1 (Nat.le_of_ble_eq_true rfl) dX6_reasonOfPart_94 (fun r_6 H1 L1 P hf => ?_)
        refine r_jn (fun k113 : Int32 → Option Int32 => ∀ (s_7 : Int32) H1 L1 ls, Hp G o s H1 L1 → lv_has ls 1 [] → k113 s_7 = some r → W p l e rmX6_reasonOfPart s m args below meth c H1 L1 0 0 (Qm G (some (.int r)) o rmX6_reasonOfPart below args s) (F0 m 113 ls [.int s_7])) hf ?_ (fun k113 j113 hf => ?_)
        · intro s_7 H1 L1 ls  P hl hf
          exact q_iret C P (rm := rmX6_reasonOfPart) ⟨rfl, rfl⟩ dX6_reasonOfPart_113 hf
        refine r_if_eq C dX6_reasonOfPart_97 hf (fun hf => ?_) (fun hf => ?_)
        · refine r_bipush C (v := 7) (by decide) dX6_reasonOfPart_111 ?_
          exact j113 ((7 : Int32)) _ _ _ P (lv_sub hl [] rfl) hf
        · refine r_aload_n C hl 0 rfl rfl dX6_reasonOfPart_100 ?_
          refine r_aload_n C hl 0 rfl rfl dX6_reasonOfPart_101 ?_
          refine gf_19_11 C P rfl wd_890 dX6_reasonOfPart_102 ?_
          refine r_qVi C P cf_X6_121 (rm := rmX6_refusal) 19 0 (fun _ _ => ⟨_, rfl⟩) rfl rfl rfl [.int (rd o 19 0 11)] [] hf (fun _ h => ctX6_refusal l G o (rd o 19 0 11) h) ⟨rfl, rfl⟩ ⟨Nat.le_of_ble_eq_true rfl, Nat.le_of_ble_eq_true rfl⟩ ⟨Nat.le_of_ble_eq_true rfl, Nat.le_of_ble_eq_true rfl⟩ rfl rfl hl.1 (Nat.le_of_ble_eq_true rfl) dX6_reasonOfPart_105 (fun r_8 H1 L1 P hf => ?_)
          refine r_goto C dX6_reasonOfPart_108 ?_
          exact j113 r_8 _ _ _ P (lv_sub hl [] rfl) hf
      · refine lv_lookup C.1 C.2.1 (tgt := 114) dX6_reasonOfPart_4.1 (by decide) ((lv_osw hc0 rfl).trans ((lv_osw hc1 rfl).trans ((lv_osw hc2 rfl).trans rfl))) rfl ?_
        refine r_iconst C (v := 0) (by decide) dX6_reasonOfPart_114 ?_
        exact q_iret C P (rm := rmX6_reasonOfPart) ⟨rfl, rfl⟩ dX6_reasonOfPart_115 hf
theorem ctX6_reasonOfPart (l : Launch) (G : Gd) (o : OM)   {r : Int32} (hf : F_X6_reasonOfPart o  = some r) : Ct l yX6_reasonOfPart cX6_reasonOfPart 1 (some .int) rmX6_reasonOfPart G [.ref (rA G 19 0)] o (some (.int r)) o := ct_of (by decide +kernel) (Nat.le_of_ble_eq_true rfl) (fun p e s m below meth c ls C P hl => wX6_reasonOfPart C  P hl hf)
theorem dX6_doesPart_0 : Dc cX6_doesPart 0 (.aload_n 0) 1 1 := ⟨by decide +kernel, rfl⟩
theorem dX6_doesPart_1 : Dc cX6_doesPart 1 (.getfield 146) 3 4 := ⟨by decide +kernel, rfl⟩
theorem dX6_doesPart_4 : Dc cX6_doesPart 4 (.lookupswitch 92 #[(99, 61), (109, 44), (112, 83), (121, 74)]) 44 48 := ⟨by decide +kernel, rfl⟩
theorem dX6_doesPart_48 : Dc cX6_doesPart 48 (.aload_n 0) 1 49 := ⟨by decide +kernel, rfl⟩
theorem dX6_doesPart_49 : Dc cX6_doesPart 49 (.aload_n 0) 1 50 := ⟨by decide +kernel, rfl⟩
theorem dX6_doesPart_50 : Dc cX6_doesPart 50 (.getfield 152) 3 53 := ⟨by decide +kernel, rfl⟩
theorem dX6_doesPart_53 : Dc cX6_doesPart 53 (.aload_n 0) 1 54 := ⟨by decide +kernel, rfl⟩
theorem dX6_doesPart_54 : Dc cX6_doesPart 54 (.getfield 155) 3 57 := ⟨by decide +kernel, rfl⟩
theorem dX6_doesPart_57 : Dc cX6_doesPart 57 (.aload_n 0) 1 58 := ⟨by decide +kernel, rfl⟩
theorem dX6_doesPart_58 : Dc cX6_doesPart 58 (.getfield 158) 3 61 := ⟨by decide +kernel, rfl⟩
theorem dX6_doesPart_61 : Dc cX6_doesPart 61 (.invokevirtual 93) 3 64 := ⟨by decide +kernel, rfl⟩
theorem dX6_doesPart_64 : Dc cX6_doesPart 64 (.ireturn) 1 65 := ⟨by decide +kernel, rfl⟩
theorem dX6_doesPart_65 : Dc cX6_doesPart 65 (.aload_n 0) 1 66 := ⟨by decide +kernel, rfl⟩
theorem dX6_doesPart_66 : Dc cX6_doesPart 66 (.aload_n 0) 1 67 := ⟨by decide +kernel, rfl⟩
theorem dX6_doesPart_67 : Dc cX6_doesPart 67 (.getfield 152) 3 70 := ⟨by decide +kernel, rfl⟩
theorem dX6_doesPart_70 : Dc cX6_doesPart 70 (.aload_n 0) 1 71 := ⟨by decide +kernel, rfl⟩
theorem dX6_doesPart_71 : Dc cX6_doesPart 71 (.getfield 155) 3 74 := ⟨by decide +kernel, rfl⟩
theorem dX6_doesPart_74 : Dc cX6_doesPart 74 (.invokevirtual 118) 3 77 := ⟨by decide +kernel, rfl⟩
theorem dX6_doesPart_77 : Dc cX6_doesPart 77 (.ireturn) 1 78 := ⟨by decide +kernel, rfl⟩
theorem dX6_doesPart_78 : Dc cX6_doesPart 78 (.aload_n 0) 1 79 := ⟨by decide +kernel, rfl⟩
theorem dX6_doesPart_79 : Dc cX6_doesPart 79 (.aload_n 0) 1 80 := ⟨by decide +kernel, rfl⟩
theorem dX6_doesPart_80 : Dc cX6_doesPart 80 (.getfield 152) 3 83 := ⟨by decide +kernel, rfl⟩
theorem dX6_doesPart_83 : Dc cX6_doesPart 83 (.invokevirtual 108) 3 86 := ⟨by decide +kernel, rfl⟩
theorem dX6_doesPart_86 : Dc cX6_doesPart 86 (.ireturn) 1 87 := ⟨by decide +kernel, rfl⟩
theorem dX6_doesPart_87 : Dc cX6_doesPart 87 (.aload_n 0) 1 88 := ⟨by decide +kernel, rfl⟩
theorem dX6_doesPart_88 : Dc cX6_doesPart 88 (.aload_n 0) 1 89 := ⟨by decide +kernel, rfl⟩
theorem dX6_doesPart_89 : Dc cX6_doesPart 89 (.getfield 152) 3 92 := ⟨by decide +kernel, rfl⟩
theorem dX6_doesPart_92 : Dc cX6_doesPart 92 (.invokevirtual 124) 3 95 := ⟨by decide +kernel, rfl⟩
theorem dX6_doesPart_95 : Dc cX6_doesPart 95 (.ireturn) 1 96 := ⟨by decide +kernel, rfl⟩
theorem dX6_doesPart_96 : Dc cX6_doesPart 96 (.aload_n 0) 1 97 := ⟨by decide +kernel, rfl⟩
theorem dX6_doesPart_97 : Dc cX6_doesPart 97 (.aload_n 0) 1 98 := ⟨by decide +kernel, rfl⟩
theorem dX6_doesPart_98 : Dc cX6_doesPart 98 (.getfield 152) 3 101 := ⟨by decide +kernel, rfl⟩
theorem dX6_doesPart_101 : Dc cX6_doesPart 101 (.aload_n 0) 1 102 := ⟨by decide +kernel, rfl⟩
theorem dX6_doesPart_102 : Dc cX6_doesPart 102 (.getfield 155) 3 105 := ⟨by decide +kernel, rfl⟩
theorem dX6_doesPart_105 : Dc cX6_doesPart 105 (.invokevirtual 105) 3 108 := ⟨by decide +kernel, rfl⟩
theorem dX6_doesPart_108 : Dc cX6_doesPart 108 (.ireturn) 1 109 := ⟨by decide +kernel, rfl⟩
def F_X6_doesPart (o : OM) : Option (Int32 × OM) := bd (rd o 19 0 10) (fun t_1 : Int32 => if t_1 = 99 then (bn (F_X6_measures o (rd o 19 0 11) (rd o 19 0 12)) (fun r_2 o_3 => some (r_2, o_3))) else (if t_1 = 109 then (bn (F_X6_makes o (rd o 19 0 11) (rd o 19 0 12) (rd o 19 0 13)) (fun r_4 o_5 => some (r_4, o_5))) else (if t_1 = 112 then (bn (F_X6_seals o (rd o 19 0 11)) (fun r_6 o_7 => some (r_6, o_7))) else (if t_1 = 121 then (bn (F_X6_passes o (rd o 19 0 11)) (fun r_8 o_9 => some (r_8, o_9))) else (bn (F_X6_fills o (rd o 19 0 11) (rd o 19 0 12)) (fun r_10 o_11 => some (r_10, o_11)))))))
abbrev rmX6_doesPart : Room := { frames := 5, cells := 0, slots := 0, locals := 117 }
set_option maxHeartbeats 4000000 in
set_option maxRecDepth 100000 in
theorem wX6_doesPart {G : Gd} {p : Program} {l : Launch} {e : Env} {s : State} {m : MethodId} {args : Array Value} {below : List Frame} {meth : Method} {c : Code} {o : OM} {H : Heap} {L0 : List Loc} {ls : Array Slot} {r : Int32} {o9 : OM}  (C : Cx G RX6 cX6_doesPart 1 (some .int) p s m args meth c)  (P : Hp G o s H L0) (hl : lv_has ls 1 [(0, .ref (rA G 19 0))]) (hf : F_X6_doesPart o  = some (r, o9)) : W p l e rmX6_doesPart s m args below meth c H L0 0 0 (Qm G (some (.int r)) o9 rmX6_doesPart below args s) (F0 m 0 ls []) := by
  unfold F_X6_doesPart at hf
  refine r_aload_n C hl 0 rfl rfl dX6_doesPart_0 ?_
  refine gf_19_10 C P rfl wd_889 dX6_doesPart_1 ?_
  refine r_bdi hf (fun t_1 hf => ?_)
  refine r_ite hf (fun hc0 hf => ?_) (fun hc0 hf => ?_)
  · refine lv_lookup C.1 C.2.1 (tgt := 65) dX6_doesPart_4.1 (by decide) (by rw [hc0] <;> decide) rfl ?_
    refine r_aload_n C hl 0 rfl rfl dX6_doesPart_65 ?_
    refine r_aload_n C hl 0 rfl rfl dX6_doesPart_66 ?_
    refine gf_19_11 C P rfl wd_890 dX6_doesPart_67 ?_
    refine r_aload_n C hl 0 rfl rfl dX6_doesPart_70 ?_
    refine gf_19_12 C P rfl wd_891 dX6_doesPart_71 ?_
    refine r_cVi C P cf_X6_118 (rm := rmX6_measures) 19 0 (fun _ _ => ⟨_, rfl⟩) rfl rfl rfl [.int (rd o 19 0 11), .int (rd o 19 0 12)] [] hf (fun _ _ h => ctX6_measures l G o (rd o 19 0 11) (rd o 19 0 12) h) ⟨rfl, rfl⟩ ⟨Nat.le_of_ble_eq_true rfl, Nat.le_of_ble_eq_true rfl⟩ ⟨Nat.le_of_ble_eq_true rfl, Nat.le_of_ble_eq_true rfl⟩ rfl rfl hl.1 (Nat.le_of_ble_eq_true rfl) dX6_doesPart_74 (fun r_2 o_3 H1 L1 P hf => ?_)
    exact r_iret C P (rm := rmX6_doesPart) ⟨rfl, rfl⟩ dX6_doesPart_77 hf
  · refine r_ite hf (fun hc1 hf => ?_) (fun hc1 hf => ?_)
    · refine lv_lookup C.1 C.2.1 (tgt := 48) dX6_doesPart_4.1 (by decide) (by rw [hc1] <;> decide) rfl ?_
      refine r_aload_n C hl 0 rfl rfl dX6_doesPart_48 ?_
      refine r_aload_n C hl 0 rfl rfl dX6_doesPart_49 ?_
      refine gf_19_11 C P rfl wd_890 dX6_doesPart_50 ?_
      refine r_aload_n C hl 0 rfl rfl dX6_doesPart_53 ?_
      refine gf_19_12 C P rfl wd_891 dX6_doesPart_54 ?_
      refine r_aload_n C hl 0 rfl rfl dX6_doesPart_57 ?_
      refine gf_19_13 C P rfl wd_892 dX6_doesPart_58 ?_
      refine r_cVi C P cf_X6_93 (rm := rmX6_makes) 19 0 (fun _ _ => ⟨_, rfl⟩) rfl rfl rfl [.int (rd o 19 0 11), .int (rd o 19 0 12), .int (rd o 19 0 13)] [] hf (fun _ _ h => ctX6_makes l G o (rd o 19 0 11) (rd o 19 0 12) (rd o 19 0 13) h) ⟨rfl, rfl⟩ ⟨Nat.le_of_ble_eq_true rfl, Nat.le_of_ble_eq_true rfl⟩ ⟨Nat.le_of_ble_eq_true rfl, Nat.le_of_ble_eq_true rfl⟩ rfl rfl hl.1 (Nat.le_of_ble_eq_true rfl) dX6_doesPart_61 (fun r_4 o_5 H1 L1 P hf => ?_)
      exact r_iret C P (rm := rmX6_doesPart) ⟨rfl, rfl⟩ dX6_doesPart_64 hf
    · refine r_ite hf (fun hc2 hf => ?_) (fun hc2 hf => ?_)
      · refine lv_lookup C.1 C.2.1 (tgt := 87) dX6_doesPart_4.1 (by decide) (by rw [hc2] <;> decide) rfl ?_
        refine r_aload_n C hl 0 rfl rfl dX6_doesPart_87 ?_
        refine r_aload_n C hl 0 rfl rfl dX6_doesPart_88 ?_
        refine gf_19_11 C P rfl wd_890 dX6_doesPart_89 ?_
        refine r_cVi C P cf_X6_124 (rm := rmX6_seals) 19 0 (fun _ _ => ⟨_, rfl⟩) rfl rfl rfl [.int (rd o 19 0 11)] [] hf (fun _ _ h => ctX6_seals l G o (rd o 19 0 11) h) ⟨rfl, rfl⟩ ⟨Nat.le_of_ble_eq_true rfl, Nat.le_of_ble_eq_true rfl⟩ ⟨Nat.le_of_ble_eq_true rfl, Nat.le_of_ble_eq_true rfl⟩ rfl rfl hl.1 (Nat.le_of_ble_eq_true rfl) dX6_doesPart_92 (fun r_6 o_7 H1 L1 P hf => ?_)
        exact r_iret C P (rm := rmX6_doesPart) ⟨rfl, rfl⟩ dX6_doesPart_95 hf
      · refine r_ite hf (fun hc3 hf => ?_) (fun hc3 hf => ?_)
        · refine lv_lookup C.1 C.2.1 (tgt := 78) dX6_doesPart_4.1 (by decide) (by rw [hc3] <;> decide) rfl ?_
          refine r_aload_n C hl 0 rfl rfl dX6_doesPart_78 ?_
          refine r_aload_n C hl 0 rfl rfl dX6_doesPart_79 ?_
          refine gf_19_11 C P rfl wd_890 dX6_doesPart_80 ?_
          refine r_cVi C P cf_X6_108 (rm := rmX6_passes) 19 0 (fun _ _ => ⟨_, rfl⟩) rfl rfl rfl [.int (rd o 19 0 11)] [] hf (fun _ _ h => ctX6_passes l G o (rd o 19 0 11) h) ⟨rfl, rfl⟩ ⟨Nat.le_of_ble_eq_true rfl, Nat.le_of_ble_eq_true rfl⟩ ⟨Nat.le_of_ble_eq_true rfl, Nat.le_of_ble_eq_true rfl⟩ rfl rfl hl.1 (Nat.le_of_ble_eq_true rfl) dX6_doesPart_83 (fun r_8 o_9 H1 L1 P hf => ?_)
          exact r_iret C P (rm := rmX6_doesPart) ⟨rfl, rfl⟩ dX6_doesPart_86 hf
        · refine lv_lookup C.1 C.2.1 (tgt := 96) dX6_doesPart_4.1 (by decide) ((lv_osw hc0 rfl).trans ((lv_osw hc1 rfl).trans ((lv_osw hc2 rfl).trans ((lv_osw hc3 rfl).trans rfl)))) rfl ?_
          refine r_aload_n C hl 0 rfl rfl dX6_doesPart_96 ?_
          refine r_aload_n C hl 0 rfl rfl dX6_doesPart_97 ?_
          refine gf_19_11 C P rfl wd_890 dX6_doesPart_98 ?_
          refine r_aload_n C hl 0 rfl rfl dX6_doesPart_101 ?_
          refine gf_19_12 C P rfl wd_891 dX6_doesPart_102 ?_
          refine r_cVi C P cf_X6_105 (rm := rmX6_fills) 19 0 (fun _ _ => ⟨_, rfl⟩) rfl rfl rfl [.int (rd o 19 0 11), .int (rd o 19 0 12)] [] hf (fun _ _ h => ctX6_fills l G o (rd o 19 0 11) (rd o 19 0 12) h) ⟨rfl, rfl⟩ ⟨Nat.le_of_ble_eq_true rfl, Nat.le_of_ble_eq_true rfl⟩ ⟨Nat.le_of_ble_eq_true rfl, Nat.le_of_ble_eq_true rfl⟩ rfl rfl hl.1 (Nat.le_of_ble_eq_true rfl) dX6_doesPart_105 (fun r_10 o_11 H1 L1 P hf => ?_)
          exact r_iret C P (rm := rmX6_doesPart) ⟨rfl, rfl⟩ dX6_doesPart_108 hf
theorem ctX6_doesPart (l : Launch) (G : Gd) (o : OM)   {r : Int32} {o9 : OM} (hf : F_X6_doesPart o  = some (r, o9)) : Ct l yX6_doesPart cX6_doesPart 1 (some .int) rmX6_doesPart G [.ref (rA G 19 0)] o (some (.int r)) o9 := ct_of (by decide +kernel) (Nat.le_of_ble_eq_true rfl) (fun p e s m below meth c ls C P hl => wX6_doesPart C  P hl hf)
theorem cf_X6_161 : CallF false RX6 161 yX6_readPart cX6_readPart 2 none 0 := ⟨wd_1087, (by rw [if_neg (by decide)]; exact ⟨wd_1089, wd_44⟩), wd_71, wd_1090, by decide, by decide +kernel⟩
theorem cf_X6_164 : CallF false RX6 164 yX6_reasonOfPart cX6_reasonOfPart 1 (some .int) 0 := ⟨wd_1107, (by rw [if_neg (by decide)]; exact ⟨wd_1109, wd_49⟩), wd_71, wd_1110, by decide, by decide +kernel⟩
theorem cf_X6_168 : CallF false RX6 168 yX6_doesPart cX6_doesPart 1 (some .int) 0 := ⟨wd_1111, (by rw [if_neg (by decide)]; exact ⟨wd_1113, wd_50⟩), wd_71, wd_1114, by decide, by decide +kernel⟩
theorem dX6_goesThrough_0 : Dc cX6_goesThrough 0 (.aload_n 0) 1 1 := ⟨by decide +kernel, rfl⟩
theorem dX6_goesThrough_1 : Dc cX6_goesThrough 1 (.iconst 0) 1 2 := ⟨by decide +kernel, rfl⟩
theorem dX6_goesThrough_2 : Dc cX6_goesThrough 2 (.putfield 134) 3 5 := ⟨by decide +kernel, rfl⟩
theorem dX6_goesThrough_5 : Dc cX6_goesThrough 5 (.aload_n 0) 1 6 := ⟨by decide +kernel, rfl⟩
theorem dX6_goesThrough_6 : Dc cX6_goesThrough 6 (.iconst 0) 1 7 := ⟨by decide +kernel, rfl⟩
theorem dX6_goesThrough_7 : Dc cX6_goesThrough 7 (.putfield 130) 3 10 := ⟨by decide +kernel, rfl⟩
theorem dX6_goesThrough_10 : Dc cX6_goesThrough 10 (.iconst 0) 1 11 := ⟨by decide +kernel, rfl⟩
theorem dX6_goesThrough_11 : Dc cX6_goesThrough 11 (.istore_n 2) 1 12 := ⟨by decide +kernel, rfl⟩
theorem dX6_goesThrough_12 : Dc cX6_goesThrough 12 (.iconst 1) 1 13 := ⟨by decide +kernel, rfl⟩
theorem dX6_goesThrough_13 : Dc cX6_goesThrough 13 (.istore_n 3) 1 14 := ⟨by decide +kernel, rfl⟩
theorem dX6_goesThrough_14 : Dc cX6_goesThrough 14 (.iload_n 3) 1 15 := ⟨by decide +kernel, rfl⟩
theorem dX6_goesThrough_15 : Dj cX6_goesThrough 15 (.ifCond .eq 144) 3 18 (144) 159 := ⟨by decide +kernel, rfl, by decide⟩
theorem dX6_goesThrough_18 : Dc cX6_goesThrough 18 (.aload_n 0) 1 19 := ⟨by decide +kernel, rfl⟩
theorem dX6_goesThrough_19 : Dc cX6_goesThrough 19 (.invokevirtual 161) 3 22 := ⟨by decide +kernel, rfl⟩
theorem dX6_goesThrough_22 : Dc cX6_goesThrough 22 (.iload_n 1) 1 23 := ⟨by decide +kernel, rfl⟩
theorem dX6_goesThrough_23 : Dj cX6_goesThrough 23 (.ifCond .eq 10) 3 26 (10) 33 := ⟨by decide +kernel, rfl, by decide⟩
theorem dX6_goesThrough_26 : Dc cX6_goesThrough 26 (.aload_n 0) 1 27 := ⟨by decide +kernel, rfl⟩
theorem dX6_goesThrough_27 : Dc cX6_goesThrough 27 (.invokevirtual 164) 3 30 := ⟨by decide +kernel, rfl⟩
theorem dX6_goesThrough_30 : Dj cX6_goesThrough 30 (.goto 4) 3 33 (4) 34 := ⟨by decide +kernel, rfl, by decide⟩
theorem dX6_goesThrough_33 : Dc cX6_goesThrough 33 (.iconst 0) 1 34 := ⟨by decide +kernel, rfl⟩
theorem dX6_goesThrough_34 : Dc cX6_goesThrough 34 (.istore 4) 2 36 := ⟨by decide +kernel, rfl⟩
theorem dX6_goesThrough_36 : Dc cX6_goesThrough 36 (.iload 4) 2 38 := ⟨by decide +kernel, rfl⟩
theorem dX6_goesThrough_38 : Dj cX6_goesThrough 38 (.ifCond .le 22) 3 41 (22) 60 := ⟨by decide +kernel, rfl, by decide⟩
theorem dX6_goesThrough_41 : Dc cX6_goesThrough 41 (.aload_n 0) 1 42 := ⟨by decide +kernel, rfl⟩
theorem dX6_goesThrough_42 : Dc cX6_goesThrough 42 (.getfield 7) 3 45 := ⟨by decide +kernel, rfl⟩
theorem dX6_goesThrough_45 : Dc cX6_goesThrough 45 (.sipush 242) 3 48 := ⟨by decide +kernel, rfl⟩
theorem dX6_goesThrough_48 : Dc cX6_goesThrough 48 (.iload_n 2) 1 49 := ⟨by decide +kernel, rfl⟩
theorem dX6_goesThrough_49 : Dc cX6_goesThrough 49 (.iastore) 1 50 := ⟨by decide +kernel, rfl⟩
theorem dX6_goesThrough_50 : Dc cX6_goesThrough 50 (.aload_n 0) 1 51 := ⟨by decide +kernel, rfl⟩
theorem dX6_goesThrough_51 : Dc cX6_goesThrough 51 (.getfield 7) 3 54 := ⟨by decide +kernel, rfl⟩
theorem dX6_goesThrough_54 : Dc cX6_goesThrough 54 (.sipush 243) 3 57 := ⟨by decide +kernel, rfl⟩
theorem dX6_goesThrough_57 : Dc cX6_goesThrough 57 (.iload 4) 2 59 := ⟨by decide +kernel, rfl⟩
theorem dX6_goesThrough_59 : Dc cX6_goesThrough 59 (.iastore) 1 60 := ⟨by decide +kernel, rfl⟩
theorem dX6_goesThrough_60 : Dc cX6_goesThrough 60 (.aload_n 0) 1 61 := ⟨by decide +kernel, rfl⟩
theorem dX6_goesThrough_61 : Dc cX6_goesThrough 61 (.getfield 130) 3 64 := ⟨by decide +kernel, rfl⟩
theorem dX6_goesThrough_64 : Dj cX6_goesThrough 64 (.ifCond .ne 12) 3 67 (12) 76 := ⟨by decide +kernel, rfl, by decide⟩
theorem dX6_goesThrough_67 : Dc cX6_goesThrough 67 (.iload 4) 2 69 := ⟨by decide +kernel, rfl⟩
theorem dX6_goesThrough_69 : Dj cX6_goesThrough 69 (.ifCond .ne 7) 3 72 (7) 76 := ⟨by decide +kernel, rfl, by decide⟩
theorem dX6_goesThrough_72 : Dc cX6_goesThrough 72 (.iconst 1) 1 73 := ⟨by decide +kernel, rfl⟩
theorem dX6_goesThrough_73 : Dj cX6_goesThrough 73 (.goto 4) 3 76 (4) 77 := ⟨by decide +kernel, rfl, by decide⟩
theorem dX6_goesThrough_76 : Dc cX6_goesThrough 76 (.iconst 0) 1 77 := ⟨by decide +kernel, rfl⟩
theorem dX6_goesThrough_77 : Dc cX6_goesThrough 77 (.istore_n 3) 1 78 := ⟨by decide +kernel, rfl⟩
theorem dX6_goesThrough_78 : Dc cX6_goesThrough 78 (.iload_n 3) 1 79 := ⟨by decide +kernel, rfl⟩
theorem dX6_goesThrough_79 : Dj cX6_goesThrough 79 (.ifCond .eq 14) 3 82 (14) 93 := ⟨by decide +kernel, rfl, by decide⟩
theorem dX6_goesThrough_82 : Dc cX6_goesThrough 82 (.iload_n 1) 1 83 := ⟨by decide +kernel, rfl⟩
theorem dX6_goesThrough_83 : Dj cX6_goesThrough 83 (.ifCond .eq 10) 3 86 (10) 93 := ⟨by decide +kernel, rfl, by decide⟩
theorem dX6_goesThrough_86 : Dc cX6_goesThrough 86 (.aload_n 0) 1 87 := ⟨by decide +kernel, rfl⟩
theorem dX6_goesThrough_87 : Dc cX6_goesThrough 87 (.invokevirtual 168) 3 90 := ⟨by decide +kernel, rfl⟩
theorem dX6_goesThrough_90 : Dj cX6_goesThrough 90 (.goto 4) 3 93 (4) 94 := ⟨by decide +kernel, rfl, by decide⟩
theorem dX6_goesThrough_93 : Dc cX6_goesThrough 93 (.iconst 0) 1 94 := ⟨by decide +kernel, rfl⟩
theorem dX6_goesThrough_94 : Dc cX6_goesThrough 94 (.istore 5) 2 96 := ⟨by decide +kernel, rfl⟩
theorem dX6_goesThrough_96 : Dc cX6_goesThrough 96 (.iload_n 2) 1 97 := ⟨by decide +kernel, rfl⟩
theorem dX6_goesThrough_97 : Dc cX6_goesThrough 97 (.iload_n 3) 1 98 := ⟨by decide +kernel, rfl⟩
theorem dX6_goesThrough_98 : Dj cX6_goesThrough 98 (.ifCond .eq 7) 3 101 (7) 105 := ⟨by decide +kernel, rfl, by decide⟩
theorem dX6_goesThrough_101 : Dc cX6_goesThrough 101 (.iconst 1) 1 102 := ⟨by decide +kernel, rfl⟩
theorem dX6_goesThrough_102 : Dj cX6_goesThrough 102 (.goto 4) 3 105 (4) 106 := ⟨by decide +kernel, rfl, by decide⟩
theorem dX6_goesThrough_105 : Dc cX6_goesThrough 105 (.iconst 0) 1 106 := ⟨by decide +kernel, rfl⟩
theorem dX6_goesThrough_106 : Dc cX6_goesThrough 106 (.iadd) 1 107 := ⟨by decide +kernel, rfl⟩
theorem dX6_goesThrough_107 : Dc cX6_goesThrough 107 (.istore_n 2) 1 108 := ⟨by decide +kernel, rfl⟩
theorem dX6_goesThrough_108 : Dc cX6_goesThrough 108 (.iload_n 3) 1 109 := ⟨by decide +kernel, rfl⟩
theorem dX6_goesThrough_109 : Dj cX6_goesThrough 109 (.ifCond .eq 18) 3 112 (18) 127 := ⟨by decide +kernel, rfl, by decide⟩
theorem dX6_goesThrough_112 : Dc cX6_goesThrough 112 (.aload_n 0) 1 113 := ⟨by decide +kernel, rfl⟩
theorem dX6_goesThrough_113 : Dc cX6_goesThrough 113 (.getfield 134) 3 116 := ⟨by decide +kernel, rfl⟩
theorem dX6_goesThrough_116 : Dc cX6_goesThrough 116 (.aload_n 0) 1 117 := ⟨by decide +kernel, rfl⟩
theorem dX6_goesThrough_117 : Dc cX6_goesThrough 117 (.getfield 127) 3 120 := ⟨by decide +kernel, rfl⟩
theorem dX6_goesThrough_120 : Dj cX6_goesThrough 120 (.if_icmp .ge 7) 3 123 (7) 127 := ⟨by decide +kernel, rfl, by decide⟩
theorem dX6_goesThrough_123 : Dc cX6_goesThrough 123 (.iconst 1) 1 124 := ⟨by decide +kernel, rfl⟩
theorem dX6_goesThrough_124 : Dj cX6_goesThrough 124 (.goto 4) 3 127 (4) 128 := ⟨by decide +kernel, rfl, by decide⟩
theorem dX6_goesThrough_127 : Dc cX6_goesThrough 127 (.iconst 0) 1 128 := ⟨by decide +kernel, rfl⟩
theorem dX6_goesThrough_128 : Dc cX6_goesThrough 128 (.istore_n 3) 1 129 := ⟨by decide +kernel, rfl⟩
theorem dX6_goesThrough_129 : Dc cX6_goesThrough 129 (.iload_n 3) 1 130 := ⟨by decide +kernel, rfl⟩
theorem dX6_goesThrough_130 : Dj cX6_goesThrough 130 (.ifCond .eq 26) 3 133 (26) 156 := ⟨by decide +kernel, rfl, by decide⟩
theorem dX6_goesThrough_133 : Dc cX6_goesThrough 133 (.aload_n 0) 1 134 := ⟨by decide +kernel, rfl⟩
theorem dX6_goesThrough_134 : Dc cX6_goesThrough 134 (.bipush 59) 2 136 := ⟨by decide +kernel, rfl⟩
theorem dX6_goesThrough_136 : Dc cX6_goesThrough 136 (.bipush 59) 2 138 := ⟨by decide +kernel, rfl⟩
theorem dX6_goesThrough_138 : Dc cX6_goesThrough 138 (.invokevirtual 140) 3 141 := ⟨by decide +kernel, rfl⟩
theorem dX6_goesThrough_141 : Dc cX6_goesThrough 141 (.istore 6) 2 143 := ⟨by decide +kernel, rfl⟩
theorem dX6_goesThrough_143 : Dc cX6_goesThrough 143 (.aload_n 0) 1 144 := ⟨by decide +kernel, rfl⟩
theorem dX6_goesThrough_144 : Dc cX6_goesThrough 144 (.getfield 130) 3 147 := ⟨by decide +kernel, rfl⟩
theorem dX6_goesThrough_147 : Dj cX6_goesThrough 147 (.ifCond .ne 7) 3 150 (7) 154 := ⟨by decide +kernel, rfl, by decide⟩
theorem dX6_goesThrough_150 : Dc cX6_goesThrough 150 (.iconst 1) 1 151 := ⟨by decide +kernel, rfl⟩
theorem dX6_goesThrough_151 : Dj cX6_goesThrough 151 (.goto 4) 3 154 (4) 155 := ⟨by decide +kernel, rfl, by decide⟩
theorem dX6_goesThrough_154 : Dc cX6_goesThrough 154 (.iconst 0) 1 155 := ⟨by decide +kernel, rfl⟩
theorem dX6_goesThrough_155 : Dc cX6_goesThrough 155 (.istore_n 3) 1 156 := ⟨by decide +kernel, rfl⟩
theorem dX6_goesThrough_156 : Dj cX6_goesThrough 156 (.goto (-142)) 3 159 (-142) 14 := ⟨by decide +kernel, rfl, by decide⟩
theorem dX6_goesThrough_159 : Dc cX6_goesThrough 159 (.iload_n 2) 1 160 := ⟨by decide +kernel, rfl⟩
theorem dX6_goesThrough_160 : Dc cX6_goesThrough 160 (.ireturn) 1 161 := ⟨by decide +kernel, rfl⟩
def LX6_goesThrough_14 (k159 : OM → Int32 → Option (Int32 × OM)) (v1 : Int32) : Nat → OM → Int32 → Int32 → Option (Int32 × OM)
  | 0 => fun _ _ _ => none
  | n + 1 => fun o_7 v2_5 v3_6 => if v3_6 = 0 then (k159 o_7 v2_5) else (bn (F_X6_readPart o_7) (fun _ o_9 => bd (fun (s_10 : Int32) => bd (fun (o_11 : OM) => bd (fun (s_12 : Int32) => bd (fun (o_14 : OM) (s_13 : Int32) => bd (fun (s_15 : Int32) => bd (v2_5 + s_15) (fun v2_16 : Int32 => bd (fun (s_17 : Int32) => bd (fun (o_19 : OM) (v3_18 : Int32) => (LX6_goesThrough_14 k159 v1 n) o_19 v2_16 v3_18) (fun k156 => if s_17 = 0 then (k156 o_14 s_17) else (bn (F_X6_takes o_14 ((59 : Int32)) ((59 : Int32))) (fun r_20 o_21 => bd (fun (s_22 : Int32) => k156 o_21 s_22) (fun k155 => if (rd o_21 19 0 9) = 0 then (k155 ((1 : Int32))) else (k155 ((0 : Int32)))))))) (fun k128 => bd (fun (_ : Unit) => k128 ((0 : Int32))) (fun k127 => if s_12 = 0 then (k127 ()) else (if (rd o_14 19 0 7) ≤ (rd o_14 19 0 8) then (k127 ()) else (k128 ((1 : Int32)))))))) (fun k106 => if s_12 = 0 then (k106 ((0 : Int32))) else (k106 ((1 : Int32))))) (fun k94 => bd (fun (_ : Unit) => k94 o_11 ((0 : Int32))) (fun k93 => if s_12 = 0 then (k93 ()) else (if v1 = 0 then (k93 ()) else (bn (F_X6_doesPart o_11) (fun r_23 o_24 => k94 o_24 r_23)))))) (fun k77 => bd (fun (_ : Unit) => k77 ((0 : Int32))) (fun k76 => if (rd o_11 19 0 9) = 0 then (if s_10 = 0 then (k77 ((1 : Int32))) else (k76 ())) else (k76 ())))) (fun k60 => if s_10 ≤ 0 then (k60 o_9) else (grd (inB ((242 : Int32)) 244) (bd (wr o_9 20 0 ((242 : Int32)).toNatClampNeg v2_5) (fun o_25 : OM => grd (inB ((243 : Int32)) 244) (bd (wr o_25 20 0 ((243 : Int32)).toNatClampNeg s_10) (fun o_26 : OM => k60 o_26))))))) (fun k34 => if v1 = 0 then (k34 ((0 : Int32))) else (bq (F_X6_reasonOfPart o_9) (fun r_27 => k34 r_27)))))
def F_X6_goesThrough (o : OM) (v1 : Int32) : Option (Int32 × OM) := bd (wr o 19 0 8 ((0 : Int32))) (fun o_1 : OM => grd (isZ ((0 : Int32))) (bd (wr o_1 19 0 9 ((0 : Int32))) (fun o_2 : OM => bd (fun (o_4 : OM) (v2_3 : Int32) => some (v2_3, o_4)) (fun k159 => LX6_goesThrough_14 k159 v1 FU o_2 ((0 : Int32)) ((1 : Int32))))))
abbrev rmX6_goesThrough : Room := { frames := 8, cells := 0, slots := 0, locals := 188 }
set_option maxHeartbeats 4000000 in
set_option maxRecDepth 100000 in
theorem lX6_goesThrough_14 {G : Gd} {p : Program} {l : Launch} {e : Env} {s : State} {m : MethodId} {args : Array Value} {below : List Frame} {meth : Method} {c : Code} {r : Int32} {o9 : OM} {v1 : Int32} (C : Cx G RX6 cX6_goesThrough 7 (some .int) p s m args meth c)  {k159 : OM → Int32 → Option (Int32 × OM)} (j159 : ∀ (o_4 : OM) (v2_3 : Int32) H1 L1 ls, Hp G o_4 s H1 L1 → lv_has ls 7 [(2, .int v2_3)] → k159 o_4 v2_3 = some (r, o9) → W p l e rmX6_goesThrough s m args below meth c H1 L1 0 0 (Qm G (some (.int r)) o9 rmX6_goesThrough below args s) (F0 m 159 ls [])) : ∀ (n : Nat) (o_7 : OM) (v2_5 : Int32) (v3_6 : Int32) H1 L1 ls, Hp G o_7 s H1 L1 → lv_has ls 7 [(0, .ref (rA G 19 0)), (1, .int v1), (2, .int v2_5), (3, .int v3_6)] → LX6_goesThrough_14 k159 v1 n o_7 v2_5 v3_6 = some (r, o9) → W p l e rmX6_goesThrough s m args below meth c H1 L1 0 0 (Qm G (some (.int r)) o9 rmX6_goesThrough below args s) (F0 m 14 ls []) := by
  intro n
  induction n with
  | zero =>
    intro o_7 v2_5 v3_6 H1 L1 ls P hl hf
    exact nomatch hf
  | succ n ih =>
    intro o_7 v2_5 v3_6 H1 L1 ls P hl hf
    rw [LX6_goesThrough_14.eq_2] at hf
    refine r_iload_n C hl 3 rfl rfl dX6_goesThrough_14 ?_
    refine r_if_eq C dX6_goesThrough_15 hf (fun hf => ?_) (fun hf => ?_)
    · exact j159 o_7 v2_5 _ _ _ P (lv_sub hl [2] rfl) hf
    · refine r_aload_n C hl 0 rfl rfl dX6_goesThrough_18 ?_
      refine r_cVv C P cf_X6_161 (rm := rmX6_readPart) 19 0 (fun _ _ => ⟨_, rfl⟩) rfl rfl rfl [] [] hf (fun _ _ h => ctX6_readPart l G o_7 h) ⟨rfl, rfl⟩ ⟨Nat.le_of_ble_eq_true rfl, Nat.le_of_ble_eq_true rfl⟩ ⟨Nat.le_of_ble_eq_true rfl, Nat.le_of_ble_eq_true rfl⟩ rfl rfl hl.1 (Nat.le_of_ble_eq_true rfl) dX6_goesThrough_19 (fun _ o_9 H1 L1 P hf => ?_)
      refine r_iload_n C hl 1 rfl rfl dX6_goesThrough_22 ?_
      refine r_jn (fun k34 : Int32 → Option (Int32 × OM) => ∀ (s_10 : Int32) H1 L1 ls, Hp G o_9 s H1 L1 → lv_has ls 7 [(0, .ref (rA G 19 0)), (1, .int v1), (2, .int v2_5)] → k34 s_10 = some (r, o9) → W p l e rmX6_goesThrough s m args below meth c H1 L1 0 0 (Qm G (some (.int r)) o9 rmX6_goesThrough below args s) (F0 m 34 ls [.int s_10])) hf ?_ (fun k34 j34 hf => ?_)
      · intro s_10 H1 L1 ls  P hl hf
        refine r_istore C [(4, .int s_10), (0, .ref (rA G 19 0)), (1, .int v1), (2, .int v2_5)] hl (by decide) rfl dX6_goesThrough_34 (fun ls hl => ?_)
        refine r_iload C hl 0 rfl dX6_goesThrough_36 ?_
        refine r_jn (fun k60 : OM → Option (Int32 × OM) => ∀ (o_11 : OM) H1 L1 ls, Hp G o_11 s H1 L1 → lv_has ls 7 [(0, .ref (rA G 19 0)), (1, .int v1), (2, .int v2_5), (4, .int s_10)] → k60 o_11 = some (r, o9) → W p l e rmX6_goesThrough s m args below meth c H1 L1 0 0 (Qm G (some (.int r)) o9 rmX6_goesThrough below args s) (F0 m 60 ls [])) hf ?_ (fun k60 j60 hf => ?_)
        · intro o_11 H1 L1 ls  P hl hf
          refine r_aload_n C hl 0 rfl rfl dX6_goesThrough_60 ?_
          refine gf_19_9 C P rfl wd_888 dX6_goesThrough_61 ?_
          refine r_jn (fun k77 : Int32 → Option (Int32 × OM) => ∀ (s_12 : Int32) H1 L1 ls, Hp G o_11 s H1 L1 → lv_has ls 7 [(0, .ref (rA G 19 0)), (1, .int v1), (2, .int v2_5)] → k77 s_12 = some (r, o9) → W p l e rmX6_goesThrough s m args below meth c H1 L1 0 0 (Qm G (some (.int r)) o9 rmX6_goesThrough below args s) (F0 m 77 ls [.int s_12])) hf ?_ (fun k77 j77 hf => ?_)
          · intro s_12 H1 L1 ls  P hl hf
            refine r_istore_n C [(3, .int s_12), (0, .ref (rA G 19 0)), (1, .int v1), (2, .int v2_5)] hl (by decide) rfl rfl dX6_goesThrough_77 (fun ls hl => ?_)
            refine r_iload_n C hl 0 rfl rfl dX6_goesThrough_78 ?_
            refine r_jn (fun k94 : OM → Int32 → Option (Int32 × OM) => ∀ (o_14 : OM) (s_13 : Int32) H1 L1 ls, Hp G o_14 s H1 L1 → lv_has ls 7 [(0, .ref (rA G 19 0)), (1, .int v1), (2, .int v2_5), (3, .int s_12)] → k94 o_14 s_13 = some (r, o9) → W p l e rmX6_goesThrough s m args below meth c H1 L1 0 0 (Qm G (some (.int r)) o9 rmX6_goesThrough below args s) (F0 m 94 ls [.int s_13])) hf ?_ (fun k94 j94 hf => ?_)
            · intro o_14 s_13 H1 L1 ls  P hl hf
              refine r_istore C [(5, .int s_13), (0, .ref (rA G 19 0)), (1, .int v1), (2, .int v2_5), (3, .int s_12)] hl (by decide) rfl dX6_goesThrough_94 (fun ls hl => ?_)
              refine r_iload_n C hl 3 rfl rfl dX6_goesThrough_96 ?_
              refine r_iload_n C hl 4 rfl rfl dX6_goesThrough_97 ?_
              refine r_jn (fun k106 : Int32 → Option (Int32 × OM) => ∀ (s_15 : Int32) H1 L1 ls, Hp G o_14 s H1 L1 → lv_has ls 7 [(0, .ref (rA G 19 0)), (1, .int v1), (3, .int s_12)] → k106 s_15 = some (r, o9) → W p l e rmX6_goesThrough s m args below meth c H1 L1 0 0 (Qm G (some (.int r)) o9 rmX6_goesThrough below args s) (F0 m 106 ls [.int s_15, .int v2_5])) hf ?_ (fun k106 j106 hf => ?_)
              · intro s_15 H1 L1 ls  P hl hf
                refine r_iadd2 C dX6_goesThrough_106 ?_
                refine r_bdi hf (fun v2_16 hf => ?_)
                refine r_istore_n C [(2, .int v2_16), (0, .ref (rA G 19 0)), (1, .int v1), (3, .int s_12)] hl (by decide) rfl rfl dX6_goesThrough_107 (fun ls hl => ?_)
                refine r_iload_n C hl 3 rfl rfl dX6_goesThrough_108 ?_
                refine r_jn (fun k128 : Int32 → Option (Int32 × OM) => ∀ (s_17 : Int32) H1 L1 ls, Hp G o_14 s H1 L1 → lv_has ls 7 [(0, .ref (rA G 19 0)), (1, .int v1), (2, .int v2_16)] → k128 s_17 = some (r, o9) → W p l e rmX6_goesThrough s m args below meth c H1 L1 0 0 (Qm G (some (.int r)) o9 rmX6_goesThrough below args s) (F0 m 128 ls [.int s_17])) hf ?_ (fun k128 j128 hf => ?_)
                · intro s_17 H1 L1 ls  P hl hf
                  refine r_istore_n C [(3, .int s_17), (0, .ref (rA G 19 0)), (1, .int v1), (2, .int v2_16)] hl (by decide) rfl rfl dX6_goesThrough_128 (fun ls hl => ?_)
                  refine r_iload_n C hl 0 rfl rfl dX6_goesThrough_129 ?_
                  refine r_jn (fun k156 : OM → Int32 → Option (Int32 × OM) => ∀ (o_19 : OM) (v3_18 : Int32) H1 L1 ls, Hp G o_19 s H1 L1 → lv_has ls 7 [(0, .ref (rA G 19 0)), (1, .int v1), (2, .int v2_16), (3, .int v3_18)] → k156 o_19 v3_18 = some (r, o9) → W p l e rmX6_goesThrough s m args below meth c H1 L1 0 0 (Qm G (some (.int r)) o9 rmX6_goesThrough below args s) (F0 m 156 ls [])) hf ?_ (fun k156 j156 hf => ?_)
                  · intro o_19 v3_18 H1 L1 ls  P hl hf
                    refine r_goto C dX6_goesThrough_156 ?_
                    exact ih o_19 v2_16 v3_18 _ _ _ P (lv_sub hl [0, 1, 2, 3] rfl) hf
                  refine r_if_eq C dX6_goesThrough_130 hf (fun hf => ?_) (fun hf => ?_)
                  · exact j156 o_14 s_17 _ _ _ P (lv_sub hl [1, 2, 3, 0] rfl) hf
                  · refine r_aload_n C hl 1 rfl rfl dX6_goesThrough_133 ?_
                    refine r_bipush C (v := 59) (by decide) dX6_goesThrough_134 ?_
                    refine r_bipush C (v := 59) (by decide) dX6_goesThrough_136 ?_
                    refine r_cVi C P cf_X6_140 (rm := rmX6_takes) 19 0 (fun _ _ => ⟨_, rfl⟩) rfl rfl rfl [.int ((59 : Int32)), .int ((59 : Int32))] [] hf (fun _ _ h => ctX6_takes l G o_14 ((59 : Int32)) ((59 : Int32)) h) ⟨rfl, rfl⟩ ⟨Nat.le_of_ble_eq_true rfl, Nat.le_of_ble_eq_true rfl⟩ ⟨Nat.le_of_ble_eq_true rfl, Nat.le_of_ble_eq_true rfl⟩ rfl rfl hl.1 (Nat.le_of_ble_eq_true rfl) dX6_goesThrough_138 (fun r_20 o_21 H1 L1 P hf => ?_)
                    refine r_istore C [(6, .int r_20), (3, .int s_17), (0, .ref (rA G 19 0)), (1, .int v1), (2, .int v2_16)] hl (by decide) rfl dX6_goesThrough_141 (fun ls hl => ?_)
                    refine r_aload_n C hl 2 rfl rfl dX6_goesThrough_143 ?_
                    refine gf_19_9 C P rfl wd_888 dX6_goesThrough_144 ?_
                    refine r_jn (fun k155 : Int32 → Option (Int32 × OM) => ∀ (s_22 : Int32) H1 L1 ls, Hp G o_21 s H1 L1 → lv_has ls 7 [(0, .ref (rA G 19 0)), (1, .int v1), (2, .int v2_16)] → k155 s_22 = some (r, o9) → W p l e rmX6_goesThrough s m args below meth c H1 L1 0 0 (Qm G (some (.int r)) o9 rmX6_goesThrough below args s) (F0 m 155 ls [.int s_22])) hf ?_ (fun k155 j155 hf => ?_)
                    · intro s_22 H1 L1 ls  P hl hf
                      refine r_istore_n C [(3, .int s_22), (0, .ref (rA G 19 0)), (1, .int v1), (2, .int v2_16)] hl (by decide) rfl rfl dX6_goesThrough_155 (fun ls hl => ?_)
                      exact j156 o_21 s_22 _ _ _ P (lv_sub hl [1, 2, 3, 0] rfl) hf
                    refine r_if_ne C dX6_goesThrough_147 hf (fun hf => ?_) (fun hf => ?_)
                    · refine r_iconst C (v := 0) (by decide) dX6_goesThrough_154 ?_
                      exact j155 ((0 : Int32)) _ _ _ P (lv_sub hl [2, 3, 4] rfl) hf
                    · refine r_iconst C (v := 1) (by decide) dX6_goesThrough_150 ?_
                      refine r_goto C dX6_goesThrough_151 ?_
                      exact j155 ((1 : Int32)) _ _ _ P (lv_sub hl [2, 3, 4] rfl) hf
                refine r_jn (fun k127 : Unit → Option (Int32 × OM) => ∀ H1 L1 ls, Hp G o_14 s H1 L1 → lv_has ls 7 [(0, .ref (rA G 19 0)), (1, .int v1), (2, .int v2_16)] → k127 () = some (r, o9) → W p l e rmX6_goesThrough s m args below meth c H1 L1 0 0 (Qm G (some (.int r)) o9 rmX6_goesThrough below args s) (F0 m 127 ls [])) hf ?_ (fun k127 j127 hf => ?_)
                · intro  H1 L1 ls  P hl hf
                  refine r_iconst C (v := 0) (by decide) dX6_goesThrough_127 ?_
                  exact j128 ((0 : Int32)) _ _ _ P (lv_sub hl [0, 1, 2] rfl) hf
                refine r_if_eq C dX6_goesThrough_109 hf (fun hf => ?_) (fun hf => ?_)
                · exact j127  _ _ _ P (lv_sub hl [1, 2, 0] rfl) hf
                · refine r_aload_n C hl 1 rfl rfl dX6_goesThrough_112 ?_
                  refine gf_19_8 C P rfl wd_887 dX6_goesThrough_113 ?_
                  refine r_aload_n C hl 1 rfl rfl dX6_goesThrough_116 ?_
                  refine gf_19_7 C P rfl wd_886 dX6_goesThrough_117 ?_
                  refine r_icmp_ge C dX6_goesThrough_120 hf (fun hf => ?_) (fun hf => ?_)
                  · exact j127  _ _ _ P (lv_sub hl [1, 2, 0] rfl) hf
                  · refine r_iconst C (v := 1) (by decide) dX6_goesThrough_123 ?_
                    refine r_goto C dX6_goesThrough_124 ?_
                    exact j128 ((1 : Int32)) _ _ _ P (lv_sub hl [1, 2, 0] rfl) hf
              refine r_if_eq C dX6_goesThrough_98 hf (fun hf => ?_) (fun hf => ?_)
              · refine r_iconst C (v := 0) (by decide) dX6_goesThrough_105 ?_
                exact j106 ((0 : Int32)) _ _ _ P (lv_sub hl [1, 2, 4] rfl) hf
              · refine r_iconst C (v := 1) (by decide) dX6_goesThrough_101 ?_
                refine r_goto C dX6_goesThrough_102 ?_
                exact j106 ((1 : Int32)) _ _ _ P (lv_sub hl [1, 2, 4] rfl) hf
            refine r_jn (fun k93 : Unit → Option (Int32 × OM) => ∀ H1 L1 ls, Hp G o_11 s H1 L1 → lv_has ls 7 [(0, .ref (rA G 19 0)), (1, .int v1), (2, .int v2_5), (3, .int s_12)] → k93 () = some (r, o9) → W p l e rmX6_goesThrough s m args below meth c H1 L1 0 0 (Qm G (some (.int r)) o9 rmX6_goesThrough below args s) (F0 m 93 ls [])) hf ?_ (fun k93 j93 hf => ?_)
            · intro  H1 L1 ls  P hl hf
              refine r_iconst C (v := 0) (by decide) dX6_goesThrough_93 ?_
              exact j94 o_11 ((0 : Int32)) _ _ _ P (lv_sub hl [0, 1, 2, 3] rfl) hf
            refine r_if_eq C dX6_goesThrough_79 hf (fun hf => ?_) (fun hf => ?_)
            · exact j93  _ _ _ P (lv_sub hl [1, 2, 3, 0] rfl) hf
            · refine r_iload_n C hl 2 rfl rfl dX6_goesThrough_82 ?_
              refine r_if_eq C dX6_goesThrough_83 hf (fun hf => ?_) (fun hf => ?_)
              · exact j93  _ _ _ P (lv_sub hl [1, 2, 3, 0] rfl) hf
              · refine r_aload_n C hl 1 rfl rfl dX6_goesThrough_86 ?_
                refine r_cVi C P cf_X6_168 (rm := rmX6_doesPart) 19 0 (fun _ _ => ⟨_, rfl⟩) rfl rfl rfl [] [] hf (fun _ _ h => ctX6_doesPart l G o_11 h) ⟨rfl, rfl⟩ ⟨Nat.le_of_ble_eq_true rfl, Nat.le_of_ble_eq_true rfl⟩ ⟨Nat.le_of_ble_eq_true rfl, Nat.le_of_ble_eq_true rfl⟩ rfl rfl hl.1 (Nat.le_of_ble_eq_true rfl) dX6_goesThrough_87 (fun r_23 o_24 H1 L1 P hf => ?_)
                refine r_goto C dX6_goesThrough_90 ?_
                exact j94 o_24 r_23 _ _ _ P (lv_sub hl [1, 2, 3, 0] rfl) hf
          refine r_jn (fun k76 : Unit → Option (Int32 × OM) => ∀ H1 L1 ls, Hp G o_11 s H1 L1 → lv_has ls 7 [(0, .ref (rA G 19 0)), (1, .int v1), (2, .int v2_5)] → k76 () = some (r, o9) → W p l e rmX6_goesThrough s m args below meth c H1 L1 0 0 (Qm G (some (.int r)) o9 rmX6_goesThrough below args s) (F0 m 76 ls [])) hf ?_ (fun k76 j76 hf => ?_)
          · intro  H1 L1 ls  P hl hf
            refine r_iconst C (v := 0) (by decide) dX6_goesThrough_76 ?_
            exact j77 ((0 : Int32)) _ _ _ P (lv_sub hl [0, 1, 2] rfl) hf
          refine r_if_ne C dX6_goesThrough_64 hf (fun hf => ?_) (fun hf => ?_)
          · exact j76  _ _ _ P (lv_sub hl [0, 1, 2] rfl) hf
          · refine r_iload C hl 3 rfl dX6_goesThrough_67 ?_
            refine r_if_ne C dX6_goesThrough_69 hf (fun hf => ?_) (fun hf => ?_)
            · exact j76  _ _ _ P (lv_sub hl [0, 1, 2] rfl) hf
            · refine r_iconst C (v := 1) (by decide) dX6_goesThrough_72 ?_
              refine r_goto C dX6_goesThrough_73 ?_
              exact j77 ((1 : Int32)) _ _ _ P (lv_sub hl [0, 1, 2] rfl) hf
        refine r_if_le C dX6_goesThrough_38 hf (fun hf => ?_) (fun hf => ?_)
        · exact j60 o_9 _ _ _ P (lv_sub hl [1, 2, 3, 0] rfl) hf
        · refine r_aload_n C hl 1 rfl rfl dX6_goesThrough_41 ?_
          refine gf_19_1 C P rfl wd_880 dX6_goesThrough_42 ?_
          refine r_sipush C (v := 242) (by decide) dX6_goesThrough_45 ?_
          refine r_iload_n C hl 3 rfl rfl dX6_goesThrough_48 ?_
          refine r_iast C P (k := 20) (i := 0) (n := 244) (fun _ _ => rfl) rfl dX6_goesThrough_49 hf (fun o_25 H1 L1 P hf => ?_)
          refine r_aload_n C hl 1 rfl rfl dX6_goesThrough_50 ?_
          refine gf_19_1 C P rfl wd_880 dX6_goesThrough_51 ?_
          refine r_sipush C (v := 243) (by decide) dX6_goesThrough_54 ?_
          refine r_iload C hl 0 rfl dX6_goesThrough_57 ?_
          refine r_iast C P (k := 20) (i := 0) (n := 244) (fun _ _ => rfl) rfl dX6_goesThrough_59 hf (fun o_26 H1 L1 P hf => ?_)
          exact j60 o_26 _ _ _ P (lv_sub hl [1, 2, 3, 0] rfl) hf
      refine r_if_eq C dX6_goesThrough_23 hf (fun hf => ?_) (fun hf => ?_)
      · refine r_iconst C (v := 0) (by decide) dX6_goesThrough_33 ?_
        exact j34 ((0 : Int32)) _ _ _ P (lv_sub hl [0, 1, 2] rfl) hf
      · refine r_aload_n C hl 0 rfl rfl dX6_goesThrough_26 ?_
        refine r_qVi C P cf_X6_164 (rm := rmX6_reasonOfPart) 19 0 (fun _ _ => ⟨_, rfl⟩) rfl rfl rfl [] [] hf (fun _ h => ctX6_reasonOfPart l G o_9 h) ⟨rfl, rfl⟩ ⟨Nat.le_of_ble_eq_true rfl, Nat.le_of_ble_eq_true rfl⟩ ⟨Nat.le_of_ble_eq_true rfl, Nat.le_of_ble_eq_true rfl⟩ rfl rfl hl.1 (Nat.le_of_ble_eq_true rfl) dX6_goesThrough_27 (fun r_27 H1 L1 P hf => ?_)
        refine r_goto C dX6_goesThrough_30 ?_
        exact j34 r_27 _ _ _ P (lv_sub hl [0, 1, 2] rfl) hf
set_option maxHeartbeats 4000000 in
set_option maxRecDepth 100000 in
theorem wX6_goesThrough {G : Gd} {p : Program} {l : Launch} {e : Env} {s : State} {m : MethodId} {args : Array Value} {below : List Frame} {meth : Method} {c : Code} {o : OM} {H : Heap} {L0 : List Loc} {ls : Array Slot} {r : Int32} {o9 : OM} {v1 : Int32} (C : Cx G RX6 cX6_goesThrough 7 (some .int) p s m args meth c)  (P : Hp G o s H L0) (hl : lv_has ls 7 [(0, .ref (rA G 19 0)), (1, .int v1)]) (hf : F_X6_goesThrough o v1 = some (r, o9)) : W p l e rmX6_goesThrough s m args below meth c H L0 0 0 (Qm G (some (.int r)) o9 rmX6_goesThrough below args s) (F0 m 0 ls []) := by
  unfold F_X6_goesThrough at hf
  refine r_aload_n C hl 0 rfl rfl dX6_goesThrough_0 ?_
  refine r_iconst C (v := 0) (by decide) dX6_goesThrough_1 ?_
  refine pf_19_8 C P rfl wd_887 dX6_goesThrough_2 hf (fun o_1 H1 L1 P hf => ?_)
  refine r_aload_n C hl 0 rfl rfl dX6_goesThrough_5 ?_
  refine r_iconst C (v := 0) (by decide) dX6_goesThrough_6 ?_
  refine pf_19_9 C P rfl wd_888 dX6_goesThrough_7 hf (fun o_2 H1 L1 P hf => ?_)
  refine r_iconst C (v := 0) (by decide) dX6_goesThrough_10 ?_
  refine r_istore_n C [(2, .int ((0 : Int32))), (0, .ref (rA G 19 0)), (1, .int v1)] hl (by decide) rfl rfl dX6_goesThrough_11 (fun ls hl => ?_)
  refine r_iconst C (v := 1) (by decide) dX6_goesThrough_12 ?_
  refine r_istore_n C [(3, .int ((1 : Int32))), (2, .int ((0 : Int32))), (0, .ref (rA G 19 0)), (1, .int v1)] hl (by decide) rfl rfl dX6_goesThrough_13 (fun ls hl => ?_)
  refine r_jn (fun k159 : OM → Int32 → Option (Int32 × OM) => ∀ (o_4 : OM) (v2_3 : Int32) H1 L1 ls, Hp G o_4 s H1 L1 → lv_has ls 7 [(2, .int v2_3)] → k159 o_4 v2_3 = some (r, o9) → W p l e rmX6_goesThrough s m args below meth c H1 L1 0 0 (Qm G (some (.int r)) o9 rmX6_goesThrough below args s) (F0 m 159 ls [])) hf ?_ (fun k159 j159 hf => ?_)
  · intro o_4 v2_3 H1 L1 ls  P hl hf
    refine r_iload_n C hl 0 rfl rfl dX6_goesThrough_159 ?_
    exact r_iret C P (rm := rmX6_goesThrough) ⟨rfl, rfl⟩ dX6_goesThrough_160 hf
  exact lX6_goesThrough_14 C  j159 FU o_2 ((0 : Int32)) ((1 : Int32)) _ _ _ P (lv_sub hl [2, 3, 1, 0] rfl) hf
theorem ctX6_goesThrough (l : Launch) (G : Gd) (o : OM) (v1 : Int32)  {r : Int32} {o9 : OM} (hf : F_X6_goesThrough o v1 = some (r, o9)) : Ct l yX6_goesThrough cX6_goesThrough 7 (some .int) rmX6_goesThrough G [.ref (rA G 19 0), .int v1] o (some (.int r)) o9 := ct_of (by decide +kernel) (Nat.le_of_ble_eq_true rfl) (fun p e s m below meth c ls C P hl => wX6_goesThrough C  P hl hf)
theorem cf_X6_171 : CallF false RX6 171 yX6_goesThrough cX6_goesThrough 7 (some .int) 1 := ⟨wd_1083, (by rw [if_neg (by decide)]; exact ⟨wd_1085, wd_43⟩), wd_71, wd_1086, by decide, by decide +kernel⟩
theorem dX6_firstError_0 : Dc cX6_firstError 0 (.aload_n 0) 1 1 := ⟨by decide +kernel, rfl⟩
theorem dX6_firstError_1 : Dc cX6_firstError 1 (.iconst 0) 1 2 := ⟨by decide +kernel, rfl⟩
theorem dX6_firstError_2 : Dc cX6_firstError 2 (.putfield 22) 3 5 := ⟨by decide +kernel, rfl⟩
theorem dX6_firstError_5 : Dc cX6_firstError 5 (.aload_n 0) 1 6 := ⟨by decide +kernel, rfl⟩
theorem dX6_firstError_6 : Dc cX6_firstError 6 (.iconst 0) 1 7 := ⟨by decide +kernel, rfl⟩
theorem dX6_firstError_7 : Dc cX6_firstError 7 (.invokevirtual 171) 3 10 := ⟨by decide +kernel, rfl⟩
theorem dX6_firstError_10 : Dc cX6_firstError 10 (.istore_n 1) 1 11 := ⟨by decide +kernel, rfl⟩
theorem dX6_firstError_11 : Dc cX6_firstError 11 (.aload_n 0) 1 12 := ⟨by decide +kernel, rfl⟩
theorem dX6_firstError_12 : Dc cX6_firstError 12 (.getfield 130) 3 15 := ⟨by decide +kernel, rfl⟩
theorem dX6_firstError_15 : Dj cX6_firstError 15 (.ifCond .eq 10) 3 18 (10) 25 := ⟨by decide +kernel, rfl, by decide⟩
theorem dX6_firstError_18 : Dc cX6_firstError 18 (.aload_n 0) 1 19 := ⟨by decide +kernel, rfl⟩
theorem dX6_firstError_19 : Dc cX6_firstError 19 (.getfield 134) 3 22 := ⟨by decide +kernel, rfl⟩
theorem dX6_firstError_22 : Dj cX6_firstError 22 (.goto 7) 3 25 (7) 29 := ⟨by decide +kernel, rfl, by decide⟩
theorem dX6_firstError_25 : Dc cX6_firstError 25 (.aload_n 0) 1 26 := ⟨by decide +kernel, rfl⟩
theorem dX6_firstError_26 : Dc cX6_firstError 26 (.getfield 127) 3 29 := ⟨by decide +kernel, rfl⟩
theorem dX6_firstError_29 : Dc cX6_firstError 29 (.ireturn) 1 30 := ⟨by decide +kernel, rfl⟩
def F_X6_firstError (o : OM) : Option (Int32 × OM) := bd (wr o 19 0 0 ((0 : Int32))) (fun o_1 : OM => bn (F_X6_goesThrough o_1 ((0 : Int32))) (fun r_2 o_3 => bd (fun (s_4 : Int32) => some (s_4, o_3)) (fun k29 => if (rd o_3 19 0 9) = 0 then (k29 (rd o_3 19 0 7)) else (k29 (rd o_3 19 0 8)))))
abbrev rmX6_firstError : Room := { frames := 9, cells := 0, slots := 0, locals := 214 }
set_option maxHeartbeats 4000000 in
set_option maxRecDepth 100000 in
theorem wX6_firstError {G : Gd} {p : Program} {l : Launch} {e : Env} {s : State} {m : MethodId} {args : Array Value} {below : List Frame} {meth : Method} {c : Code} {o : OM} {H : Heap} {L0 : List Loc} {ls : Array Slot} {r : Int32} {o9 : OM}  (C : Cx G RX6 cX6_firstError 2 (some .int) p s m args meth c)  (P : Hp G o s H L0) (hl : lv_has ls 2 [(0, .ref (rA G 19 0))]) (hf : F_X6_firstError o  = some (r, o9)) : W p l e rmX6_firstError s m args below meth c H L0 0 0 (Qm G (some (.int r)) o9 rmX6_firstError below args s) (F0 m 0 ls []) := by
  unfold F_X6_firstError at hf
  refine r_aload_n C hl 0 rfl rfl dX6_firstError_0 ?_
  refine r_iconst C (v := 0) (by decide) dX6_firstError_1 ?_
  refine pf_19_0 C P rfl wd_879 dX6_firstError_2 hf (fun o_1 H1 L1 P hf => ?_)
  refine r_aload_n C hl 0 rfl rfl dX6_firstError_5 ?_
  refine r_iconst C (v := 0) (by decide) dX6_firstError_6 ?_
  refine r_cVi C P cf_X6_171 (rm := rmX6_goesThrough) 19 0 (fun _ _ => ⟨_, rfl⟩) rfl rfl rfl [.int ((0 : Int32))] [] hf (fun _ _ h => ctX6_goesThrough l G o_1 ((0 : Int32)) h) ⟨rfl, rfl⟩ ⟨Nat.le_of_ble_eq_true rfl, Nat.le_of_ble_eq_true rfl⟩ ⟨Nat.le_of_ble_eq_true rfl, Nat.le_of_ble_eq_true rfl⟩ rfl rfl hl.1 (Nat.le_of_ble_eq_true rfl) dX6_firstError_7 (fun r_2 o_3 H1 L1 P hf => ?_)
  refine r_istore_n C [(1, .int r_2), (0, .ref (rA G 19 0))] hl (by decide) rfl rfl dX6_firstError_10 (fun ls hl => ?_)
  refine r_aload_n C hl 1 rfl rfl dX6_firstError_11 ?_
  refine gf_19_9 C P rfl wd_888 dX6_firstError_12 ?_
  refine r_jn (fun k29 : Int32 → Option (Int32 × OM) => ∀ (s_4 : Int32) H1 L1 ls, Hp G o_3 s H1 L1 → lv_has ls 2 [] → k29 s_4 = some (r, o9) → W p l e rmX6_firstError s m args below meth c H1 L1 0 0 (Qm G (some (.int r)) o9 rmX6_firstError below args s) (F0 m 29 ls [.int s_4])) hf ?_ (fun k29 j29 hf => ?_)
  · intro s_4 H1 L1 ls  P hl hf
    exact r_iret C P (rm := rmX6_firstError) ⟨rfl, rfl⟩ dX6_firstError_29 hf
  refine r_if_eq C dX6_firstError_15 hf (fun hf => ?_) (fun hf => ?_)
  · refine r_aload_n C hl 1 rfl rfl dX6_firstError_25 ?_
    refine gf_19_7 C P rfl wd_886 dX6_firstError_26 ?_
    exact j29 (rd o_3 19 0 7) _ _ _ P (lv_sub hl [] rfl) hf
  · refine r_aload_n C hl 1 rfl rfl dX6_firstError_18 ?_
    refine gf_19_8 C P rfl wd_887 dX6_firstError_19 ?_
    refine r_goto C dX6_firstError_22 ?_
    exact j29 (rd o_3 19 0 8) _ _ _ P (lv_sub hl [] rfl) hf
theorem ctX6_firstError (l : Launch) (G : Gd) (o : OM)   {r : Int32} {o9 : OM} (hf : F_X6_firstError o  = some (r, o9)) : Ct l yX6_firstError cX6_firstError 2 (some .int) rmX6_firstError G [.ref (rA G 19 0)] o (some (.int r)) o9 := ct_of (by decide +kernel) (Nat.le_of_ble_eq_true rfl) (fun p e s m below meth c ls C P hl => wX6_firstError C  P hl hf)
theorem dX6_work_0 : Dc cX6_work 0 (.aload_n 0) 1 1 := ⟨by decide +kernel, rfl⟩
theorem dX6_work_1 : Dc cX6_work 1 (.iconst 0) 1 2 := ⟨by decide +kernel, rfl⟩
theorem dX6_work_2 : Dc cX6_work 2 (.invokevirtual 171) 3 5 := ⟨by decide +kernel, rfl⟩
theorem dX6_work_5 : Dc cX6_work 5 (.istore_n 1) 1 6 := ⟨by decide +kernel, rfl⟩
theorem dX6_work_6 : Dc cX6_work 6 (.aload_n 0) 1 7 := ⟨by decide +kernel, rfl⟩
theorem dX6_work_7 : Dc cX6_work 7 (.aload_n 0) 1 8 := ⟨by decide +kernel, rfl⟩
theorem dX6_work_8 : Dc cX6_work 8 (.getfield 130) 3 11 := ⟨by decide +kernel, rfl⟩
theorem dX6_work_11 : Dj cX6_work 11 (.ifCond .eq 7) 3 14 (7) 18 := ⟨by decide +kernel, rfl, by decide⟩
theorem dX6_work_14 : Dc cX6_work 14 (.iconst 1) 1 15 := ⟨by decide +kernel, rfl⟩
theorem dX6_work_15 : Dj cX6_work 15 (.goto 4) 3 18 (4) 19 := ⟨by decide +kernel, rfl, by decide⟩
theorem dX6_work_18 : Dc cX6_work 18 (.iconst 0) 1 19 := ⟨by decide +kernel, rfl⟩
theorem dX6_work_19 : Dc cX6_work 19 (.invokevirtual 87) 3 22 := ⟨by decide +kernel, rfl⟩
theorem dX6_work_22 : Dj cX6_work 22 (.ifCond .ne 5) 3 25 (5) 27 := ⟨by decide +kernel, rfl, by decide⟩
theorem dX6_work_25 : Dc cX6_work 25 (.iconst 0) 1 26 := ⟨by decide +kernel, rfl⟩
theorem dX6_work_26 : Dc cX6_work 26 (.ireturn) 1 27 := ⟨by decide +kernel, rfl⟩
theorem dX6_work_27 : Dc cX6_work 27 (.aload_n 0) 1 28 := ⟨by decide +kernel, rfl⟩
theorem dX6_work_28 : Dc cX6_work 28 (.invokevirtual 90) 3 31 := ⟨by decide +kernel, rfl⟩
theorem dX6_work_31 : Dc cX6_work 31 (.aload_n 0) 1 32 := ⟨by decide +kernel, rfl⟩
theorem dX6_work_32 : Dc cX6_work 32 (.getfield 7) 3 35 := ⟨by decide +kernel, rfl⟩
theorem dX6_work_35 : Dc cX6_work 35 (.sipush 242) 3 38 := ⟨by decide +kernel, rfl⟩
theorem dX6_work_38 : Dc cX6_work 38 (.iconst (-1)) 1 39 := ⟨by decide +kernel, rfl⟩
theorem dX6_work_39 : Dc cX6_work 39 (.iastore) 1 40 := ⟨by decide +kernel, rfl⟩
theorem dX6_work_40 : Dc cX6_work 40 (.aload_n 0) 1 41 := ⟨by decide +kernel, rfl⟩
theorem dX6_work_41 : Dc cX6_work 41 (.getfield 7) 3 44 := ⟨by decide +kernel, rfl⟩
theorem dX6_work_44 : Dc cX6_work 44 (.sipush 243) 3 47 := ⟨by decide +kernel, rfl⟩
theorem dX6_work_47 : Dc cX6_work 47 (.iconst (-1)) 1 48 := ⟨by decide +kernel, rfl⟩
theorem dX6_work_48 : Dc cX6_work 48 (.iastore) 1 49 := ⟨by decide +kernel, rfl⟩
theorem dX6_work_49 : Dc cX6_work 49 (.aload_n 0) 1 50 := ⟨by decide +kernel, rfl⟩
theorem dX6_work_50 : Dc cX6_work 50 (.iconst 1) 1 51 := ⟨by decide +kernel, rfl⟩
theorem dX6_work_51 : Dc cX6_work 51 (.invokevirtual 171) 3 54 := ⟨by decide +kernel, rfl⟩
theorem dX6_work_54 : Dc cX6_work 54 (.istore_n 1) 1 55 := ⟨by decide +kernel, rfl⟩
theorem dX6_work_55 : Dc cX6_work 55 (.aload_n 0) 1 56 := ⟨by decide +kernel, rfl⟩
theorem dX6_work_56 : Dc cX6_work 56 (.iconst 0) 1 57 := ⟨by decide +kernel, rfl⟩
theorem dX6_work_57 : Dc cX6_work 57 (.putfield 127) 3 60 := ⟨by decide +kernel, rfl⟩
theorem dX6_work_60 : Dc cX6_work 60 (.iload_n 1) 1 61 := ⟨by decide +kernel, rfl⟩
theorem dX6_work_61 : Dc cX6_work 61 (.ireturn) 1 62 := ⟨by decide +kernel, rfl⟩
def F_X6_work (o : OM) : Option (Int32 × OM) := bn (F_X6_goesThrough o ((0 : Int32))) (fun r_1 o_2 => bd (fun (s_3 : Int32) => bn (F_X6_holds o_2 s_3) (fun r_4 o_5 => if r_4 = 0 then (some (((0 : Int32)), o_5)) else (bn (F_X6_save o_5) (fun _ o_7 => grd (inB ((242 : Int32)) 244) (bd (wr o_7 20 0 ((242 : Int32)).toNatClampNeg ((-1 : Int32))) (fun o_8 : OM => grd (inB ((243 : Int32)) 244) (bd (wr o_8 20 0 ((243 : Int32)).toNatClampNeg ((-1 : Int32))) (fun o_9 : OM => bn (F_X6_goesThrough o_9 ((1 : Int32))) (fun r_10 o_11 => bd (wr o_11 19 0 7 ((0 : Int32))) (fun o_12 : OM => some (r_10, o_12))))))))))) (fun k19 => if (rd o_2 19 0 9) = 0 then (k19 ((0 : Int32))) else (k19 ((1 : Int32)))))
abbrev rmX6_work : Room := { frames := 9, cells := 0, slots := 0, locals := 214 }
set_option maxHeartbeats 4000000 in
set_option maxRecDepth 100000 in
theorem wX6_work {G : Gd} {p : Program} {l : Launch} {e : Env} {s : State} {m : MethodId} {args : Array Value} {below : List Frame} {meth : Method} {c : Code} {o : OM} {H : Heap} {L0 : List Loc} {ls : Array Slot} {r : Int32} {o9 : OM}  (C : Cx G RX6 cX6_work 2 (some .int) p s m args meth c)  (P : Hp G o s H L0) (hl : lv_has ls 2 [(0, .ref (rA G 19 0))]) (hf : F_X6_work o  = some (r, o9)) : W p l e rmX6_work s m args below meth c H L0 0 0 (Qm G (some (.int r)) o9 rmX6_work below args s) (F0 m 0 ls []) := by
  unfold F_X6_work at hf
  refine r_aload_n C hl 0 rfl rfl dX6_work_0 ?_
  refine r_iconst C (v := 0) (by decide) dX6_work_1 ?_
  refine r_cVi C P cf_X6_171 (rm := rmX6_goesThrough) 19 0 (fun _ _ => ⟨_, rfl⟩) rfl rfl rfl [.int ((0 : Int32))] [] hf (fun _ _ h => ctX6_goesThrough l G o ((0 : Int32)) h) ⟨rfl, rfl⟩ ⟨Nat.le_of_ble_eq_true rfl, Nat.le_of_ble_eq_true rfl⟩ ⟨Nat.le_of_ble_eq_true rfl, Nat.le_of_ble_eq_true rfl⟩ rfl rfl hl.1 (Nat.le_of_ble_eq_true rfl) dX6_work_2 (fun r_1 o_2 H1 L1 P hf => ?_)
  refine r_istore_n C [(1, .int r_1), (0, .ref (rA G 19 0))] hl (by decide) rfl rfl dX6_work_5 (fun ls hl => ?_)
  refine r_aload_n C hl 1 rfl rfl dX6_work_6 ?_
  refine r_aload_n C hl 1 rfl rfl dX6_work_7 ?_
  refine gf_19_9 C P rfl wd_888 dX6_work_8 ?_
  refine r_jn (fun k19 : Int32 → Option (Int32 × OM) => ∀ (s_3 : Int32) H1 L1 ls, Hp G o_2 s H1 L1 → lv_has ls 2 [(0, .ref (rA G 19 0))] → k19 s_3 = some (r, o9) → W p l e rmX6_work s m args below meth c H1 L1 0 0 (Qm G (some (.int r)) o9 rmX6_work below args s) (F0 m 19 ls [.int s_3, .ref (rA G 19 0)])) hf ?_ (fun k19 j19 hf => ?_)
  · intro s_3 H1 L1 ls  P hl hf
    refine r_cVi C P cf_X6_87 (rm := rmX6_holds) 19 0 (fun _ _ => ⟨_, rfl⟩) rfl rfl rfl [.int s_3] [] hf (fun _ _ h => ctX6_holds l G o_2 s_3 h) ⟨rfl, rfl⟩ ⟨Nat.le_of_ble_eq_true rfl, Nat.le_of_ble_eq_true rfl⟩ ⟨Nat.le_of_ble_eq_true rfl, Nat.le_of_ble_eq_true rfl⟩ rfl rfl hl.1 (Nat.le_of_ble_eq_true rfl) dX6_work_19 (fun r_4 o_5 H1 L1 P hf => ?_)
    refine r_if_ne C dX6_work_22 hf (fun hf => ?_) (fun hf => ?_)
    · refine r_aload_n C hl 0 rfl rfl dX6_work_27 ?_
      refine r_cVv C P cf_X6_90 (rm := rmX6_save) 19 0 (fun _ _ => ⟨_, rfl⟩) rfl rfl rfl [] [] hf (fun _ _ h => ctX6_save l G o_5 h) ⟨rfl, rfl⟩ ⟨Nat.le_of_ble_eq_true rfl, Nat.le_of_ble_eq_true rfl⟩ ⟨Nat.le_of_ble_eq_true rfl, Nat.le_of_ble_eq_true rfl⟩ rfl rfl hl.1 (Nat.le_of_ble_eq_true rfl) dX6_work_28 (fun _ o_7 H1 L1 P hf => ?_)
      refine r_aload_n C hl 0 rfl rfl dX6_work_31 ?_
      refine gf_19_1 C P rfl wd_880 dX6_work_32 ?_
      refine r_sipush C (v := 242) (by decide) dX6_work_35 ?_
      refine r_iconst C (v := -1) (by decide) dX6_work_38 ?_
      refine r_iast C P (k := 20) (i := 0) (n := 244) (fun _ _ => rfl) rfl dX6_work_39 hf (fun o_8 H1 L1 P hf => ?_)
      refine r_aload_n C hl 0 rfl rfl dX6_work_40 ?_
      refine gf_19_1 C P rfl wd_880 dX6_work_41 ?_
      refine r_sipush C (v := 243) (by decide) dX6_work_44 ?_
      refine r_iconst C (v := -1) (by decide) dX6_work_47 ?_
      refine r_iast C P (k := 20) (i := 0) (n := 244) (fun _ _ => rfl) rfl dX6_work_48 hf (fun o_9 H1 L1 P hf => ?_)
      refine r_aload_n C hl 0 rfl rfl dX6_work_49 ?_
      refine r_iconst C (v := 1) (by decide) dX6_work_50 ?_
      refine r_cVi C P cf_X6_171 (rm := rmX6_goesThrough) 19 0 (fun _ _ => ⟨_, rfl⟩) rfl rfl rfl [.int ((1 : Int32))] [] hf (fun _ _ h => ctX6_goesThrough l G o_9 ((1 : Int32)) h) ⟨rfl, rfl⟩ ⟨Nat.le_of_ble_eq_true rfl, Nat.le_of_ble_eq_true rfl⟩ ⟨Nat.le_of_ble_eq_true rfl, Nat.le_of_ble_eq_true rfl⟩ rfl rfl hl.1 (Nat.le_of_ble_eq_true rfl) dX6_work_51 (fun r_10 o_11 H1 L1 P hf => ?_)
      refine r_istore_n C [(1, .int r_10), (0, .ref (rA G 19 0))] hl (by decide) rfl rfl dX6_work_54 (fun ls hl => ?_)
      refine r_aload_n C hl 1 rfl rfl dX6_work_55 ?_
      refine r_iconst C (v := 0) (by decide) dX6_work_56 ?_
      refine pf_19_7 C P rfl wd_886 dX6_work_57 hf (fun o_12 H1 L1 P hf => ?_)
      refine r_iload_n C hl 0 rfl rfl dX6_work_60 ?_
      exact r_iret C P (rm := rmX6_work) ⟨rfl, rfl⟩ dX6_work_61 hf
    · refine r_iconst C (v := 0) (by decide) dX6_work_25 ?_
      exact r_iret C P (rm := rmX6_work) ⟨rfl, rfl⟩ dX6_work_26 hf
  refine r_if_eq C dX6_work_11 hf (fun hf => ?_) (fun hf => ?_)
  · refine r_iconst C (v := 0) (by decide) dX6_work_18 ?_
    exact j19 ((0 : Int32)) _ _ _ P (lv_sub hl [1] rfl) hf
  · refine r_iconst C (v := 1) (by decide) dX6_work_14 ?_
    refine r_goto C dX6_work_15 ?_
    exact j19 ((1 : Int32)) _ _ _ P (lv_sub hl [1] rfl) hf
theorem ctX6_work (l : Launch) (G : Gd) (o : OM)   {r : Int32} {o9 : OM} (hf : F_X6_work o  = some (r, o9)) : Ct l yX6_work cX6_work 2 (some .int) rmX6_work G [.ref (rA G 19 0)] o (some (.int r)) o9 := ct_of (by decide +kernel) (Nat.le_of_ble_eq_true rfl) (fun p e s m below meth c ls C P hl => wX6_work C  P hl hf)
theorem dX6_stopped_0 : Dc cX6_stopped 0 (.aload_n 0) 1 1 := ⟨by decide +kernel, rfl⟩
theorem dX6_stopped_1 : Dc cX6_stopped 1 (.iload_n 1) 1 2 := ⟨by decide +kernel, rfl⟩
theorem dX6_stopped_2 : Dc cX6_stopped 2 (.iconst 0) 1 3 := ⟨by decide +kernel, rfl⟩
theorem dX6_stopped_3 : Dc cX6_stopped 3 (.iconst 1) 1 4 := ⟨by decide +kernel, rfl⟩
theorem dX6_stopped_4 : Dc cX6_stopped 4 (.invokestatic 26) 3 7 := ⟨by decide +kernel, rfl⟩
theorem dX6_stopped_7 : Dj cX6_stopped 7 (.ifCond .eq 7) 3 10 (7) 14 := ⟨by decide +kernel, rfl, by decide⟩
theorem dX6_stopped_10 : Dc cX6_stopped 10 (.iconst 0) 1 11 := ⟨by decide +kernel, rfl⟩
theorem dX6_stopped_11 : Dj cX6_stopped 11 (.goto 4) 3 14 (4) 15 := ⟨by decide +kernel, rfl, by decide⟩
theorem dX6_stopped_14 : Dc cX6_stopped 14 (.iconst 1) 1 15 := ⟨by decide +kernel, rfl⟩
theorem dX6_stopped_15 : Dc cX6_stopped 15 (.invokevirtual 87) 3 18 := ⟨by decide +kernel, rfl⟩
theorem dX6_stopped_18 : Dj cX6_stopped 18 (.ifCond .eq 16) 3 21 (16) 34 := ⟨by decide +kernel, rfl, by decide⟩
theorem dX6_stopped_21 : Dc cX6_stopped 21 (.aload_n 0) 1 22 := ⟨by decide +kernel, rfl⟩
theorem dX6_stopped_22 : Dc cX6_stopped 22 (.getfield 7) 3 25 := ⟨by decide +kernel, rfl⟩
theorem dX6_stopped_25 : Dc cX6_stopped 25 (.sipush 242) 3 28 := ⟨by decide +kernel, rfl⟩
theorem dX6_stopped_28 : Dc cX6_stopped 28 (.iload_n 1) 1 29 := ⟨by decide +kernel, rfl⟩
theorem dX6_stopped_29 : Dc cX6_stopped 29 (.iadd) 1 30 := ⟨by decide +kernel, rfl⟩
theorem dX6_stopped_30 : Dc cX6_stopped 30 (.iaload) 1 31 := ⟨by decide +kernel, rfl⟩
theorem dX6_stopped_31 : Dj cX6_stopped 31 (.goto 4) 3 34 (4) 35 := ⟨by decide +kernel, rfl, by decide⟩
theorem dX6_stopped_34 : Dc cX6_stopped 34 (.iconst 0) 1 35 := ⟨by decide +kernel, rfl⟩
theorem dX6_stopped_35 : Dc cX6_stopped 35 (.ireturn) 1 36 := ⟨by decide +kernel, rfl⟩
def F_X6_stopped (o : OM) (v1 : Int32) : Option (Int32 × OM) := bq (F_X6_in o v1 ((0 : Int32)) ((1 : Int32))) (fun r_1 => bd (fun (s_2 : Int32) => bn (F_X6_holds o s_2) (fun r_3 o_4 => bd (fun (s_5 : Int32) => some (s_5, o_4)) (fun k35 => if r_3 = 0 then (k35 ((0 : Int32))) else (grd (inB (((242 : Int32)) + v1) 244) (k35 (rd o_4 20 0 (((242 : Int32)) + v1).toNatClampNeg)))))) (fun k15 => if r_1 = 0 then (k15 ((1 : Int32))) else (k15 ((0 : Int32)))))
abbrev rmX6_stopped : Room := { frames := 1, cells := 0, slots := 0, locals := 22 }
set_option maxHeartbeats 4000000 in
set_option maxRecDepth 100000 in
theorem wX6_stopped {G : Gd} {p : Program} {l : Launch} {e : Env} {s : State} {m : MethodId} {args : Array Value} {below : List Frame} {meth : Method} {c : Code} {o : OM} {H : Heap} {L0 : List Loc} {ls : Array Slot} {r : Int32} {o9 : OM} {v1 : Int32} (C : Cx G RX6 cX6_stopped 2 (some .int) p s m args meth c)  (P : Hp G o s H L0) (hl : lv_has ls 2 [(0, .ref (rA G 19 0)), (1, .int v1)]) (hf : F_X6_stopped o v1 = some (r, o9)) : W p l e rmX6_stopped s m args below meth c H L0 0 0 (Qm G (some (.int r)) o9 rmX6_stopped below args s) (F0 m 0 ls []) := by
  unfold F_X6_stopped at hf
  refine r_aload_n C hl 0 rfl rfl dX6_stopped_0 ?_
  refine r_iload_n C hl 1 rfl rfl dX6_stopped_1 ?_
  refine r_iconst C (v := 0) (by decide) dX6_stopped_2 ?_
  refine r_iconst C (v := 1) (by decide) dX6_stopped_3 ?_
  refine r_qSi C P cf_X6_26 (rm := rmX6_in) [.int v1, .int ((0 : Int32)), .int ((1 : Int32))] [.ref (rA G 19 0)] hf (fun _ h => ctX6_in l G o v1 ((0 : Int32)) ((1 : Int32)) h) ⟨rfl, rfl⟩ ⟨Nat.le_of_ble_eq_true rfl, Nat.le_of_ble_eq_true rfl⟩ ⟨Nat.le_of_ble_eq_true rfl, Nat.le_of_ble_eq_true rfl⟩ rfl rfl hl.1 (Nat.le_of_ble_eq_true rfl) dX6_stopped_4 (fun r_1 H1 L1 P hf => ?_)
  refine r_jn (fun k15 : Int32 → Option (Int32 × OM) => ∀ (s_2 : Int32) H1 L1 ls, Hp G o s H1 L1 → lv_has ls 2 [(0, .ref (rA G 19 0)), (1, .int v1)] → k15 s_2 = some (r, o9) → W p l e rmX6_stopped s m args below meth c H1 L1 0 0 (Qm G (some (.int r)) o9 rmX6_stopped below args s) (F0 m 15 ls [.int s_2, .ref (rA G 19 0)])) hf ?_ (fun k15 j15 hf => ?_)
  · intro s_2 H1 L1 ls  P hl hf
    refine r_cVi C P cf_X6_87 (rm := rmX6_holds) 19 0 (fun _ _ => ⟨_, rfl⟩) rfl rfl rfl [.int s_2] [] hf (fun _ _ h => ctX6_holds l G o s_2 h) ⟨rfl, rfl⟩ ⟨Nat.le_of_ble_eq_true rfl, Nat.le_of_ble_eq_true rfl⟩ ⟨Nat.le_of_ble_eq_true rfl, Nat.le_of_ble_eq_true rfl⟩ rfl rfl hl.1 (Nat.le_of_ble_eq_true rfl) dX6_stopped_15 (fun r_3 o_4 H1 L1 P hf => ?_)
    refine r_jn (fun k35 : Int32 → Option (Int32 × OM) => ∀ (s_5 : Int32) H1 L1 ls, Hp G o_4 s H1 L1 → lv_has ls 2 [] → k35 s_5 = some (r, o9) → W p l e rmX6_stopped s m args below meth c H1 L1 0 0 (Qm G (some (.int r)) o9 rmX6_stopped below args s) (F0 m 35 ls [.int s_5])) hf ?_ (fun k35 j35 hf => ?_)
    · intro s_5 H1 L1 ls  P hl hf
      exact r_iret C P (rm := rmX6_stopped) ⟨rfl, rfl⟩ dX6_stopped_35 hf
    refine r_if_eq C dX6_stopped_18 hf (fun hf => ?_) (fun hf => ?_)
    · refine r_iconst C (v := 0) (by decide) dX6_stopped_34 ?_
      exact j35 ((0 : Int32)) _ _ _ P (lv_sub hl [] rfl) hf
    · refine r_aload_n C hl 0 rfl rfl dX6_stopped_21 ?_
      refine gf_19_1 C P rfl wd_880 dX6_stopped_22 ?_
      refine r_sipush C (v := 242) (by decide) dX6_stopped_25 ?_
      refine r_iload_n C hl 1 rfl rfl dX6_stopped_28 ?_
      refine r_iadd2 C dX6_stopped_29 ?_
      refine r_iald C P (k := 20) (i := 0) (n := 244) (fun _ _ => rfl) rfl dX6_stopped_30 hf (fun hf => ?_)
      refine r_goto C dX6_stopped_31 ?_
      exact j35 (rd o_4 20 0 (((242 : Int32)) + v1).toNatClampNeg) _ _ _ P (lv_sub hl [] rfl) hf
  refine r_if_eq C dX6_stopped_7 hf (fun hf => ?_) (fun hf => ?_)
  · refine r_iconst C (v := 1) (by decide) dX6_stopped_14 ?_
    exact j15 ((1 : Int32)) _ _ _ P (lv_sub hl [0, 1] rfl) hf
  · refine r_iconst C (v := 0) (by decide) dX6_stopped_10 ?_
    refine r_goto C dX6_stopped_11 ?_
    exact j15 ((0 : Int32)) _ _ _ P (lv_sub hl [0, 1] rfl) hf
theorem ctX6_stopped (l : Launch) (G : Gd) (o : OM) (v1 : Int32)  {r : Int32} {o9 : OM} (hf : F_X6_stopped o v1 = some (r, o9)) : Ct l yX6_stopped cX6_stopped 2 (some .int) rmX6_stopped G [.ref (rA G 19 0), .int v1] o (some (.int r)) o9 := ct_of (by decide +kernel) (Nat.le_of_ble_eq_true rfl) (fun p e s m below meth c ls C P hl => wX6_stopped C  P hl hf)
theorem dX6_undo_0 : Dc cX6_undo 0 (.aload_n 0) 1 1 := ⟨by decide +kernel, rfl⟩
theorem dX6_undo_1 : Dc cX6_undo 1 (.aload_n 0) 1 2 := ⟨by decide +kernel, rfl⟩
theorem dX6_undo_2 : Dc cX6_undo 2 (.getfield 34) 3 5 := ⟨by decide +kernel, rfl⟩
theorem dX6_undo_5 : Dj cX6_undo 5 (.ifCond .le 7) 3 8 (7) 12 := ⟨by decide +kernel, rfl, by decide⟩
theorem dX6_undo_8 : Dc cX6_undo 8 (.iconst 0) 1 9 := ⟨by decide +kernel, rfl⟩
theorem dX6_undo_9 : Dj cX6_undo 9 (.goto 4) 3 12 (4) 13 := ⟨by decide +kernel, rfl, by decide⟩
theorem dX6_undo_12 : Dc cX6_undo 12 (.iconst 1) 1 13 := ⟨by decide +kernel, rfl⟩
theorem dX6_undo_13 : Dc cX6_undo 13 (.invokevirtual 87) 3 16 := ⟨by decide +kernel, rfl⟩
theorem dX6_undo_16 : Dj cX6_undo 16 (.ifCond .ne 5) 3 19 (5) 21 := ⟨by decide +kernel, rfl, by decide⟩
theorem dX6_undo_19 : Dc cX6_undo 19 (.iconst 0) 1 20 := ⟨by decide +kernel, rfl⟩
theorem dX6_undo_20 : Dc cX6_undo 20 (.ireturn) 1 21 := ⟨by decide +kernel, rfl⟩
theorem dX6_undo_21 : Dc cX6_undo 21 (.aload_n 0) 1 22 := ⟨by decide +kernel, rfl⟩
theorem dX6_undo_22 : Dc cX6_undo 22 (.dup) 1 23 := ⟨by decide +kernel, rfl⟩
theorem dX6_undo_23 : Dc cX6_undo 23 (.getfield 34) 3 26 := ⟨by decide +kernel, rfl⟩
theorem dX6_undo_26 : Dc cX6_undo 26 (.iconst 1) 1 27 := ⟨by decide +kernel, rfl⟩
theorem dX6_undo_27 : Dc cX6_undo 27 (.isub) 1 28 := ⟨by decide +kernel, rfl⟩
theorem dX6_undo_28 : Dc cX6_undo 28 (.putfield 34) 3 31 := ⟨by decide +kernel, rfl⟩
theorem dX6_undo_31 : Dc cX6_undo 31 (.iconst 0) 1 32 := ⟨by decide +kernel, rfl⟩
theorem dX6_undo_32 : Dc cX6_undo 32 (.istore_n 1) 1 33 := ⟨by decide +kernel, rfl⟩
theorem dX6_undo_33 : Dc cX6_undo 33 (.iload_n 1) 1 34 := ⟨by decide +kernel, rfl⟩
theorem dX6_undo_34 : Dc cX6_undo 34 (.sipush 244) 3 37 := ⟨by decide +kernel, rfl⟩
theorem dX6_undo_37 : Dj cX6_undo 37 (.if_icmp .ge 30) 3 40 (30) 67 := ⟨by decide +kernel, rfl, by decide⟩
theorem dX6_undo_40 : Dc cX6_undo 40 (.aload_n 0) 1 41 := ⟨by decide +kernel, rfl⟩
theorem dX6_undo_41 : Dc cX6_undo 41 (.getfield 7) 3 44 := ⟨by decide +kernel, rfl⟩
theorem dX6_undo_44 : Dc cX6_undo 44 (.iload_n 1) 1 45 := ⟨by decide +kernel, rfl⟩
theorem dX6_undo_45 : Dc cX6_undo 45 (.aload_n 0) 1 46 := ⟨by decide +kernel, rfl⟩
theorem dX6_undo_46 : Dc cX6_undo 46 (.getfield 13) 3 49 := ⟨by decide +kernel, rfl⟩
theorem dX6_undo_49 : Dc cX6_undo 49 (.sipush 244) 3 52 := ⟨by decide +kernel, rfl⟩
theorem dX6_undo_52 : Dc cX6_undo 52 (.aload_n 0) 1 53 := ⟨by decide +kernel, rfl⟩
theorem dX6_undo_53 : Dc cX6_undo 53 (.getfield 34) 3 56 := ⟨by decide +kernel, rfl⟩
theorem dX6_undo_56 : Dc cX6_undo 56 (.imul) 1 57 := ⟨by decide +kernel, rfl⟩
theorem dX6_undo_57 : Dc cX6_undo 57 (.iload_n 1) 1 58 := ⟨by decide +kernel, rfl⟩
theorem dX6_undo_58 : Dc cX6_undo 58 (.iadd) 1 59 := ⟨by decide +kernel, rfl⟩
theorem dX6_undo_59 : Dc cX6_undo 59 (.iaload) 1 60 := ⟨by decide +kernel, rfl⟩
theorem dX6_undo_60 : Dc cX6_undo 60 (.iastore) 1 61 := ⟨by decide +kernel, rfl⟩
theorem dX6_undo_61 : Dc cX6_undo 61 (.iinc 1 1) 3 64 := ⟨by decide +kernel, rfl⟩
theorem dX6_undo_64 : Dj cX6_undo 64 (.goto (-31)) 3 67 (-31) 33 := ⟨by decide +kernel, rfl, by decide⟩
theorem dX6_undo_67 : Dc cX6_undo 67 (.aload_n 0) 1 68 := ⟨by decide +kernel, rfl⟩
theorem dX6_undo_68 : Dc cX6_undo 68 (.getfield 34) 3 71 := ⟨by decide +kernel, rfl⟩
theorem dX6_undo_71 : Dc cX6_undo 71 (.ireturn) 1 72 := ⟨by decide +kernel, rfl⟩
def LX6_undo_33 (k67 : OM → Option (Int32 × OM)) : Nat → OM → Int32 → Option (Int32 × OM)
  | 0 => fun _ _ => none
  | n + 1 => fun o_7 v1_6 => if ((244 : Int32)) ≤ v1_6 then (k67 o_7) else (grd (inB ((((244 : Int32)) * (rd o_7 19 0 3)) + v1_6) 1464) (grd (inB v1_6 244) (bd (wr o_7 20 0 v1_6.toNatClampNeg (rd o_7 21 0 ((((244 : Int32)) * (rd o_7 19 0 3)) + v1_6).toNatClampNeg)) (fun o_8 : OM => bd (v1_6 + (1 : Int32)) (fun v1_9 : Int32 => (LX6_undo_33 k67 n) o_8 v1_9)))))
def F_X6_undo (o : OM) : Option (Int32 × OM) := bd (fun (s_1 : Int32) => bn (F_X6_holds o s_1) (fun r_2 o_3 => if r_2 = 0 then (some (((0 : Int32)), o_3)) else (bd (wr o_3 19 0 3 ((rd o_3 19 0 3) - ((1 : Int32)))) (fun o_4 : OM => bd (fun (o_5 : OM) => some ((rd o_5 19 0 3), o_5)) (fun k67 => LX6_undo_33 k67 FU o_4 ((0 : Int32))))))) (fun k13 => if (rd o 19 0 3) ≤ 0 then (k13 ((1 : Int32))) else (k13 ((0 : Int32))))
abbrev rmX6_undo : Room := { frames := 1, cells := 0, slots := 0, locals := 21 }
set_option maxHeartbeats 4000000 in
set_option maxRecDepth 100000 in
theorem lX6_undo_33 {G : Gd} {p : Program} {l : Launch} {e : Env} {s : State} {m : MethodId} {args : Array Value} {below : List Frame} {meth : Method} {c : Code} {r : Int32} {o9 : OM}  (C : Cx G RX6 cX6_undo 2 (some .int) p s m args meth c)  {k67 : OM → Option (Int32 × OM)} (j67 : ∀ (o_5 : OM) H1 L1 ls, Hp G o_5 s H1 L1 → lv_has ls 2 [(0, .ref (rA G 19 0))] → k67 o_5 = some (r, o9) → W p l e rmX6_undo s m args below meth c H1 L1 0 0 (Qm G (some (.int r)) o9 rmX6_undo below args s) (F0 m 67 ls [])) : ∀ (n : Nat) (o_7 : OM) (v1_6 : Int32) H1 L1 ls, Hp G o_7 s H1 L1 → lv_has ls 2 [(0, .ref (rA G 19 0)), (1, .int v1_6)] → LX6_undo_33 k67 n o_7 v1_6 = some (r, o9) → W p l e rmX6_undo s m args below meth c H1 L1 0 0 (Qm G (some (.int r)) o9 rmX6_undo below args s) (F0 m 33 ls []) := by
  intro n
  induction n with
  | zero =>
    intro o_7 v1_6 H1 L1 ls P hl hf
    exact nomatch hf
  | succ n ih =>
    intro o_7 v1_6 H1 L1 ls P hl hf
    rw [LX6_undo_33.eq_2] at hf
    refine r_iload_n C hl 1 rfl rfl dX6_undo_33 ?_
    refine r_sipush C (v := 244) (by decide) dX6_undo_34 ?_
    refine r_icmp_ge C dX6_undo_37 hf (fun hf => ?_) (fun hf => ?_)
    · exact j67 o_7 _ _ _ P (lv_sub hl [0] rfl) hf
    · refine r_aload_n C hl 0 rfl rfl dX6_undo_40 ?_
      refine gf_19_1 C P rfl wd_880 dX6_undo_41 ?_
      refine r_iload_n C hl 1 rfl rfl dX6_undo_44 ?_
      refine r_aload_n C hl 0 rfl rfl dX6_undo_45 ?_
      refine gf_19_2 C P rfl wd_881 dX6_undo_46 ?_
      refine r_sipush C (v := 244) (by decide) dX6_undo_49 ?_
      refine r_aload_n C hl 0 rfl rfl dX6_undo_52 ?_
      refine gf_19_3 C P rfl wd_882 dX6_undo_53 ?_
      refine r_imul C dX6_undo_56 ?_
      refine r_iload_n C hl 1 rfl rfl dX6_undo_57 ?_
      refine r_iadd2 C dX6_undo_58 ?_
      refine r_iald C P (k := 21) (i := 0) (n := 1464) (fun _ _ => rfl) rfl dX6_undo_59 hf (fun hf => ?_)
      refine r_iast C P (k := 20) (i := 0) (n := 244) (fun _ _ => rfl) rfl dX6_undo_60 hf (fun o_8 H1 L1 P hf => ?_)
      refine r_iinc C (fun v1_9 => [(1, .int v1_9), (0, .ref (rA G 19 0))]) (w := 1) 1 hl rfl (by decide) (by decide) (fun _ => rfl) dX6_undo_61 hf (fun v1_9 ls hl hf => ?_)
      refine r_goto C dX6_undo_64 ?_
      exact ih o_8 v1_9 _ _ _ P (lv_sub hl [1, 0] rfl) hf
set_option maxHeartbeats 4000000 in
set_option maxRecDepth 100000 in
theorem wX6_undo {G : Gd} {p : Program} {l : Launch} {e : Env} {s : State} {m : MethodId} {args : Array Value} {below : List Frame} {meth : Method} {c : Code} {o : OM} {H : Heap} {L0 : List Loc} {ls : Array Slot} {r : Int32} {o9 : OM}  (C : Cx G RX6 cX6_undo 2 (some .int) p s m args meth c)  (P : Hp G o s H L0) (hl : lv_has ls 2 [(0, .ref (rA G 19 0))]) (hf : F_X6_undo o  = some (r, o9)) : W p l e rmX6_undo s m args below meth c H L0 0 0 (Qm G (some (.int r)) o9 rmX6_undo below args s) (F0 m 0 ls []) := by
  unfold F_X6_undo at hf
  refine r_aload_n C hl 0 rfl rfl dX6_undo_0 ?_
  refine r_aload_n C hl 0 rfl rfl dX6_undo_1 ?_
  refine gf_19_3 C P rfl wd_882 dX6_undo_2 ?_
  refine r_jn (fun k13 : Int32 → Option (Int32 × OM) => ∀ (s_1 : Int32) H1 L1 ls, Hp G o s H1 L1 → lv_has ls 2 [(0, .ref (rA G 19 0))] → k13 s_1 = some (r, o9) → W p l e rmX6_undo s m args below meth c H1 L1 0 0 (Qm G (some (.int r)) o9 rmX6_undo below args s) (F0 m 13 ls [.int s_1, .ref (rA G 19 0)])) hf ?_ (fun k13 j13 hf => ?_)
  · intro s_1 H1 L1 ls  P hl hf
    refine r_cVi C P cf_X6_87 (rm := rmX6_holds) 19 0 (fun _ _ => ⟨_, rfl⟩) rfl rfl rfl [.int s_1] [] hf (fun _ _ h => ctX6_holds l G o s_1 h) ⟨rfl, rfl⟩ ⟨Nat.le_of_ble_eq_true rfl, Nat.le_of_ble_eq_true rfl⟩ ⟨Nat.le_of_ble_eq_true rfl, Nat.le_of_ble_eq_true rfl⟩ rfl rfl hl.1 (Nat.le_of_ble_eq_true rfl) dX6_undo_13 (fun r_2 o_3 H1 L1 P hf => ?_)
    refine r_if_ne C dX6_undo_16 hf (fun hf => ?_) (fun hf => ?_)
    · refine r_aload_n C hl 0 rfl rfl dX6_undo_21 ?_
      refine r_dup C rfl dX6_undo_22 ?_
      refine gf_19_3 C P rfl wd_882 dX6_undo_23 ?_
      refine r_iconst C (v := 1) (by decide) dX6_undo_26 ?_
      refine r_isub C dX6_undo_27 ?_
      refine pf_19_3 C P rfl wd_882 dX6_undo_28 hf (fun o_4 H1 L1 P hf => ?_)
      refine r_iconst C (v := 0) (by decide) dX6_undo_31 ?_
      refine r_istore_n C [(1, .int ((0 : Int32))), (0, .ref (rA G 19 0))] hl (by decide) rfl rfl dX6_undo_32 (fun ls hl => ?_)
      refine r_jn (fun k67 : OM → Option (Int32 × OM) => ∀ (o_5 : OM) H1 L1 ls, Hp G o_5 s H1 L1 → lv_has ls 2 [(0, .ref (rA G 19 0))] → k67 o_5 = some (r, o9) → W p l e rmX6_undo s m args below meth c H1 L1 0 0 (Qm G (some (.int r)) o9 rmX6_undo below args s) (F0 m 67 ls [])) hf ?_ (fun k67 j67 hf => ?_)
      · intro o_5 H1 L1 ls  P hl hf
        refine r_aload_n C hl 0 rfl rfl dX6_undo_67 ?_
        refine gf_19_3 C P rfl wd_882 dX6_undo_68 ?_
        exact r_iret C P (rm := rmX6_undo) ⟨rfl, rfl⟩ dX6_undo_71 hf
      exact lX6_undo_33 C  j67 FU o_4 ((0 : Int32)) _ _ _ P (lv_sub hl [1, 0] rfl) hf
    · refine r_iconst C (v := 0) (by decide) dX6_undo_19 ?_
      exact r_iret C P (rm := rmX6_undo) ⟨rfl, rfl⟩ dX6_undo_20 hf
  refine r_if_le C dX6_undo_5 hf (fun hf => ?_) (fun hf => ?_)
  · refine r_iconst C (v := 1) (by decide) dX6_undo_12 ?_
    exact j13 ((1 : Int32)) _ _ _ P (lv_sub hl [0] rfl) hf
  · refine r_iconst C (v := 0) (by decide) dX6_undo_8 ?_
    refine r_goto C dX6_undo_9 ?_
    exact j13 ((0 : Int32)) _ _ _ P (lv_sub hl [0] rfl) hf
theorem ctX6_undo (l : Launch) (G : Gd) (o : OM)   {r : Int32} {o9 : OM} (hf : F_X6_undo o  = some (r, o9)) : Ct l yX6_undo cX6_undo 2 (some .int) rmX6_undo G [.ref (rA G 19 0)] o (some (.int r)) o9 := ct_of (by decide +kernel) (Nat.le_of_ble_eq_true rfl) (fun p e s m below meth c ls C P hl => wX6_undo C  P hl hf)
theorem dX6_keep_0 : Dc cX6_keep 0 (.aload_n 0) 1 1 := ⟨by decide +kernel, rfl⟩
theorem dX6_keep_1 : Dc cX6_keep 1 (.iconst 0) 1 2 := ⟨by decide +kernel, rfl⟩
theorem dX6_keep_2 : Dc cX6_keep 2 (.putfield 22) 3 5 := ⟨by decide +kernel, rfl⟩
theorem dX6_keep_5 : Dc cX6_keep 5 (.iconst 0) 1 6 := ⟨by decide +kernel, rfl⟩
theorem dX6_keep_6 : Dc cX6_keep 6 (.istore_n 1) 1 7 := ⟨by decide +kernel, rfl⟩
theorem dX6_keep_7 : Dc cX6_keep 7 (.iload_n 1) 1 8 := ⟨by decide +kernel, rfl⟩
theorem dX6_keep_8 : Dc cX6_keep 8 (.sipush 244) 3 11 := ⟨by decide +kernel, rfl⟩
theorem dX6_keep_11 : Dj cX6_keep 11 (.if_icmp .ge 21) 3 14 (21) 32 := ⟨by decide +kernel, rfl, by decide⟩
theorem dX6_keep_14 : Dc cX6_keep 14 (.aload_n 0) 1 15 := ⟨by decide +kernel, rfl⟩
theorem dX6_keep_15 : Dc cX6_keep 15 (.getfield 16) 3 18 := ⟨by decide +kernel, rfl⟩
theorem dX6_keep_18 : Dc cX6_keep 18 (.iload_n 1) 1 19 := ⟨by decide +kernel, rfl⟩
theorem dX6_keep_19 : Dc cX6_keep 19 (.aload_n 0) 1 20 := ⟨by decide +kernel, rfl⟩
theorem dX6_keep_20 : Dc cX6_keep 20 (.getfield 7) 3 23 := ⟨by decide +kernel, rfl⟩
theorem dX6_keep_23 : Dc cX6_keep 23 (.iload_n 1) 1 24 := ⟨by decide +kernel, rfl⟩
theorem dX6_keep_24 : Dc cX6_keep 24 (.iaload) 1 25 := ⟨by decide +kernel, rfl⟩
theorem dX6_keep_25 : Dc cX6_keep 25 (.iastore) 1 26 := ⟨by decide +kernel, rfl⟩
theorem dX6_keep_26 : Dc cX6_keep 26 (.iinc 1 1) 3 29 := ⟨by decide +kernel, rfl⟩
theorem dX6_keep_29 : Dj cX6_keep 29 (.goto (-22)) 3 32 (-22) 7 := ⟨by decide +kernel, rfl, by decide⟩
theorem dX6_keep_32 : Dc cX6_keep 32 (.aload_n 0) 1 33 := ⟨by decide +kernel, rfl⟩
theorem dX6_keep_33 : Dc cX6_keep 33 (.iconst 1) 1 34 := ⟨by decide +kernel, rfl⟩
theorem dX6_keep_34 : Dc cX6_keep 34 (.putfield 175) 3 37 := ⟨by decide +kernel, rfl⟩
theorem dX6_keep_37 : Dc cX6_keep 37 (.aload_n 0) 1 38 := ⟨by decide +kernel, rfl⟩
theorem dX6_keep_38 : Dc cX6_keep 38 (.getfield 7) 3 41 := ⟨by decide +kernel, rfl⟩
theorem dX6_keep_41 : Dc cX6_keep 41 (.sipush 233) 3 44 := ⟨by decide +kernel, rfl⟩
theorem dX6_keep_44 : Dc cX6_keep 44 (.iaload) 1 45 := ⟨by decide +kernel, rfl⟩
theorem dX6_keep_45 : Dc cX6_keep 45 (.ireturn) 1 46 := ⟨by decide +kernel, rfl⟩
def LX6_keep_7 (k32 : OM → Option (Int32 × OM)) : Nat → OM → Int32 → Option (Int32 × OM)
  | 0 => fun _ _ => none
  | n + 1 => fun o_5 v1_4 => if ((244 : Int32)) ≤ v1_4 then (k32 o_5) else (grd (inB v1_4 244) (grd (inB v1_4 244) (bd (wr o_5 22 0 v1_4.toNatClampNeg (rd o_5 20 0 v1_4.toNatClampNeg)) (fun o_6 : OM => bd (v1_4 + (1 : Int32)) (fun v1_7 : Int32 => (LX6_keep_7 k32 n) o_6 v1_7)))))
def F_X6_keep (o : OM) : Option (Int32 × OM) := bd (wr o 19 0 0 ((0 : Int32))) (fun o_1 : OM => bd (fun (o_2 : OM) => grd (isZ ((1 : Int32))) (bd (wr o_2 19 0 5 ((1 : Int32))) (fun o_3 : OM => grd (inB ((233 : Int32)) 244) (some ((rd o_3 20 0 ((233 : Int32)).toNatClampNeg), o_3))))) (fun k32 => LX6_keep_7 k32 FU o_1 ((0 : Int32))))
abbrev rmX6_keep : Room := { frames := 0, cells := 0, slots := 0, locals := 0 }
set_option maxHeartbeats 4000000 in
set_option maxRecDepth 100000 in
theorem lX6_keep_7 {G : Gd} {p : Program} {l : Launch} {e : Env} {s : State} {m : MethodId} {args : Array Value} {below : List Frame} {meth : Method} {c : Code} {r : Int32} {o9 : OM}  (C : Cx G RX6 cX6_keep 2 (some .int) p s m args meth c)  {k32 : OM → Option (Int32 × OM)} (j32 : ∀ (o_2 : OM) H1 L1 ls, Hp G o_2 s H1 L1 → lv_has ls 2 [(0, .ref (rA G 19 0))] → k32 o_2 = some (r, o9) → W p l e rmX6_keep s m args below meth c H1 L1 0 0 (Qm G (some (.int r)) o9 rmX6_keep below args s) (F0 m 32 ls [])) : ∀ (n : Nat) (o_5 : OM) (v1_4 : Int32) H1 L1 ls, Hp G o_5 s H1 L1 → lv_has ls 2 [(0, .ref (rA G 19 0)), (1, .int v1_4)] → LX6_keep_7 k32 n o_5 v1_4 = some (r, o9) → W p l e rmX6_keep s m args below meth c H1 L1 0 0 (Qm G (some (.int r)) o9 rmX6_keep below args s) (F0 m 7 ls []) := by
  intro n
  induction n with
  | zero =>
    intro o_5 v1_4 H1 L1 ls P hl hf
    exact nomatch hf
  | succ n ih =>
    intro o_5 v1_4 H1 L1 ls P hl hf
    rw [LX6_keep_7.eq_2] at hf
    refine r_iload_n C hl 1 rfl rfl dX6_keep_7 ?_
    refine r_sipush C (v := 244) (by decide) dX6_keep_8 ?_
    refine r_icmp_ge C dX6_keep_11 hf (fun hf => ?_) (fun hf => ?_)
    · exact j32 o_5 _ _ _ P (lv_sub hl [0] rfl) hf
    · refine r_aload_n C hl 0 rfl rfl dX6_keep_14 ?_
      refine gf_19_4 C P rfl wd_883 dX6_keep_15 ?_
      refine r_iload_n C hl 1 rfl rfl dX6_keep_18 ?_
      refine r_aload_n C hl 0 rfl rfl dX6_keep_19 ?_
      refine gf_19_1 C P rfl wd_880 dX6_keep_20 ?_
      refine r_iload_n C hl 1 rfl rfl dX6_keep_23 ?_
      refine r_iald C P (k := 20) (i := 0) (n := 244) (fun _ _ => rfl) rfl dX6_keep_24 hf (fun hf => ?_)
      refine r_iast C P (k := 22) (i := 0) (n := 244) (fun _ _ => rfl) rfl dX6_keep_25 hf (fun o_6 H1 L1 P hf => ?_)
      refine r_iinc C (fun v1_7 => [(1, .int v1_7), (0, .ref (rA G 19 0))]) (w := 1) 1 hl rfl (by decide) (by decide) (fun _ => rfl) dX6_keep_26 hf (fun v1_7 ls hl hf => ?_)
      refine r_goto C dX6_keep_29 ?_
      exact ih o_6 v1_7 _ _ _ P (lv_sub hl [1, 0] rfl) hf
set_option maxHeartbeats 4000000 in
set_option maxRecDepth 100000 in
theorem wX6_keep {G : Gd} {p : Program} {l : Launch} {e : Env} {s : State} {m : MethodId} {args : Array Value} {below : List Frame} {meth : Method} {c : Code} {o : OM} {H : Heap} {L0 : List Loc} {ls : Array Slot} {r : Int32} {o9 : OM}  (C : Cx G RX6 cX6_keep 2 (some .int) p s m args meth c)  (P : Hp G o s H L0) (hl : lv_has ls 2 [(0, .ref (rA G 19 0))]) (hf : F_X6_keep o  = some (r, o9)) : W p l e rmX6_keep s m args below meth c H L0 0 0 (Qm G (some (.int r)) o9 rmX6_keep below args s) (F0 m 0 ls []) := by
  unfold F_X6_keep at hf
  refine r_aload_n C hl 0 rfl rfl dX6_keep_0 ?_
  refine r_iconst C (v := 0) (by decide) dX6_keep_1 ?_
  refine pf_19_0 C P rfl wd_879 dX6_keep_2 hf (fun o_1 H1 L1 P hf => ?_)
  refine r_iconst C (v := 0) (by decide) dX6_keep_5 ?_
  refine r_istore_n C [(1, .int ((0 : Int32))), (0, .ref (rA G 19 0))] hl (by decide) rfl rfl dX6_keep_6 (fun ls hl => ?_)
  refine r_jn (fun k32 : OM → Option (Int32 × OM) => ∀ (o_2 : OM) H1 L1 ls, Hp G o_2 s H1 L1 → lv_has ls 2 [(0, .ref (rA G 19 0))] → k32 o_2 = some (r, o9) → W p l e rmX6_keep s m args below meth c H1 L1 0 0 (Qm G (some (.int r)) o9 rmX6_keep below args s) (F0 m 32 ls [])) hf ?_ (fun k32 j32 hf => ?_)
  · intro o_2 H1 L1 ls  P hl hf
    refine r_aload_n C hl 0 rfl rfl dX6_keep_32 ?_
    refine r_iconst C (v := 1) (by decide) dX6_keep_33 ?_
    refine pf_19_5 C P rfl wd_884 dX6_keep_34 hf (fun o_3 H1 L1 P hf => ?_)
    refine r_aload_n C hl 0 rfl rfl dX6_keep_37 ?_
    refine gf_19_1 C P rfl wd_880 dX6_keep_38 ?_
    refine r_sipush C (v := 233) (by decide) dX6_keep_41 ?_
    refine r_iald C P (k := 20) (i := 0) (n := 244) (fun _ _ => rfl) rfl dX6_keep_44 hf (fun hf => ?_)
    exact r_iret C P (rm := rmX6_keep) ⟨rfl, rfl⟩ dX6_keep_45 hf
  exact lX6_keep_7 C  j32 FU o_1 ((0 : Int32)) _ _ _ P (lv_sub hl [1, 0] rfl) hf
theorem ctX6_keep (l : Launch) (G : Gd) (o : OM)   {r : Int32} {o9 : OM} (hf : F_X6_keep o  = some (r, o9)) : Ct l yX6_keep cX6_keep 2 (some .int) rmX6_keep G [.ref (rA G 19 0)] o (some (.int r)) o9 := ct_of (by decide +kernel) (Nat.le_of_ble_eq_true rfl) (fun p e s m below meth c ls C P hl => wX6_keep C  P hl hf)
theorem dX6_restore_0 : Dc cX6_restore 0 (.aload_n 0) 1 1 := ⟨by decide +kernel, rfl⟩
theorem dX6_restore_1 : Dc cX6_restore 1 (.aload_n 0) 1 2 := ⟨by decide +kernel, rfl⟩
theorem dX6_restore_2 : Dc cX6_restore 2 (.getfield 175) 3 5 := ⟨by decide +kernel, rfl⟩
theorem dX6_restore_5 : Dj cX6_restore 5 (.ifCond .eq 7) 3 8 (7) 12 := ⟨by decide +kernel, rfl, by decide⟩
theorem dX6_restore_8 : Dc cX6_restore 8 (.iconst 0) 1 9 := ⟨by decide +kernel, rfl⟩
theorem dX6_restore_9 : Dj cX6_restore 9 (.goto 4) 3 12 (4) 13 := ⟨by decide +kernel, rfl, by decide⟩
theorem dX6_restore_12 : Dc cX6_restore 12 (.iconst 1) 1 13 := ⟨by decide +kernel, rfl⟩
theorem dX6_restore_13 : Dc cX6_restore 13 (.invokevirtual 87) 3 16 := ⟨by decide +kernel, rfl⟩
theorem dX6_restore_16 : Dj cX6_restore 16 (.ifCond .ne 5) 3 19 (5) 21 := ⟨by decide +kernel, rfl, by decide⟩
theorem dX6_restore_19 : Dc cX6_restore 19 (.iconst 0) 1 20 := ⟨by decide +kernel, rfl⟩
theorem dX6_restore_20 : Dc cX6_restore 20 (.ireturn) 1 21 := ⟨by decide +kernel, rfl⟩
theorem dX6_restore_21 : Dc cX6_restore 21 (.aload_n 0) 1 22 := ⟨by decide +kernel, rfl⟩
theorem dX6_restore_22 : Dc cX6_restore 22 (.invokevirtual 90) 3 25 := ⟨by decide +kernel, rfl⟩
theorem dX6_restore_25 : Dc cX6_restore 25 (.iconst 0) 1 26 := ⟨by decide +kernel, rfl⟩
theorem dX6_restore_26 : Dc cX6_restore 26 (.istore_n 1) 1 27 := ⟨by decide +kernel, rfl⟩
theorem dX6_restore_27 : Dc cX6_restore 27 (.iload_n 1) 1 28 := ⟨by decide +kernel, rfl⟩
theorem dX6_restore_28 : Dc cX6_restore 28 (.sipush 244) 3 31 := ⟨by decide +kernel, rfl⟩
theorem dX6_restore_31 : Dj cX6_restore 31 (.if_icmp .ge 21) 3 34 (21) 52 := ⟨by decide +kernel, rfl, by decide⟩
theorem dX6_restore_34 : Dc cX6_restore 34 (.aload_n 0) 1 35 := ⟨by decide +kernel, rfl⟩
theorem dX6_restore_35 : Dc cX6_restore 35 (.getfield 7) 3 38 := ⟨by decide +kernel, rfl⟩
theorem dX6_restore_38 : Dc cX6_restore 38 (.iload_n 1) 1 39 := ⟨by decide +kernel, rfl⟩
theorem dX6_restore_39 : Dc cX6_restore 39 (.aload_n 0) 1 40 := ⟨by decide +kernel, rfl⟩
theorem dX6_restore_40 : Dc cX6_restore 40 (.getfield 16) 3 43 := ⟨by decide +kernel, rfl⟩
theorem dX6_restore_43 : Dc cX6_restore 43 (.iload_n 1) 1 44 := ⟨by decide +kernel, rfl⟩
theorem dX6_restore_44 : Dc cX6_restore 44 (.iaload) 1 45 := ⟨by decide +kernel, rfl⟩
theorem dX6_restore_45 : Dc cX6_restore 45 (.iastore) 1 46 := ⟨by decide +kernel, rfl⟩
theorem dX6_restore_46 : Dc cX6_restore 46 (.iinc 1 1) 3 49 := ⟨by decide +kernel, rfl⟩
theorem dX6_restore_49 : Dj cX6_restore 49 (.goto (-22)) 3 52 (-22) 27 := ⟨by decide +kernel, rfl, by decide⟩
theorem dX6_restore_52 : Dc cX6_restore 52 (.aload_n 0) 1 53 := ⟨by decide +kernel, rfl⟩
theorem dX6_restore_53 : Dc cX6_restore 53 (.getfield 7) 3 56 := ⟨by decide +kernel, rfl⟩
theorem dX6_restore_56 : Dc cX6_restore 56 (.sipush 233) 3 59 := ⟨by decide +kernel, rfl⟩
theorem dX6_restore_59 : Dc cX6_restore 59 (.iaload) 1 60 := ⟨by decide +kernel, rfl⟩
theorem dX6_restore_60 : Dc cX6_restore 60 (.ireturn) 1 61 := ⟨by decide +kernel, rfl⟩
def LX6_restore_27 (k52 : OM → Option (Int32 × OM)) : Nat → OM → Int32 → Option (Int32 × OM)
  | 0 => fun _ _ => none
  | n + 1 => fun o_8 v1_7 => if ((244 : Int32)) ≤ v1_7 then (k52 o_8) else (grd (inB v1_7 244) (grd (inB v1_7 244) (bd (wr o_8 20 0 v1_7.toNatClampNeg (rd o_8 22 0 v1_7.toNatClampNeg)) (fun o_9 : OM => bd (v1_7 + (1 : Int32)) (fun v1_10 : Int32 => (LX6_restore_27 k52 n) o_9 v1_10)))))
def F_X6_restore (o : OM) : Option (Int32 × OM) := bd (fun (s_1 : Int32) => bn (F_X6_holds o s_1) (fun r_2 o_3 => if r_2 = 0 then (some (((0 : Int32)), o_3)) else (bn (F_X6_save o_3) (fun _ o_5 => bd (fun (o_6 : OM) => grd (inB ((233 : Int32)) 244) (some ((rd o_6 20 0 ((233 : Int32)).toNatClampNeg), o_6))) (fun k52 => LX6_restore_27 k52 FU o_5 ((0 : Int32))))))) (fun k13 => if (rd o 19 0 5) = 0 then (k13 ((1 : Int32))) else (k13 ((0 : Int32))))
abbrev rmX6_restore : Room := { frames := 1, cells := 0, slots := 0, locals := 21 }
set_option maxHeartbeats 4000000 in
set_option maxRecDepth 100000 in
theorem lX6_restore_27 {G : Gd} {p : Program} {l : Launch} {e : Env} {s : State} {m : MethodId} {args : Array Value} {below : List Frame} {meth : Method} {c : Code} {r : Int32} {o9 : OM}  (C : Cx G RX6 cX6_restore 2 (some .int) p s m args meth c)  {k52 : OM → Option (Int32 × OM)} (j52 : ∀ (o_6 : OM) H1 L1 ls, Hp G o_6 s H1 L1 → lv_has ls 2 [(0, .ref (rA G 19 0))] → k52 o_6 = some (r, o9) → W p l e rmX6_restore s m args below meth c H1 L1 0 0 (Qm G (some (.int r)) o9 rmX6_restore below args s) (F0 m 52 ls [])) : ∀ (n : Nat) (o_8 : OM) (v1_7 : Int32) H1 L1 ls, Hp G o_8 s H1 L1 → lv_has ls 2 [(0, .ref (rA G 19 0)), (1, .int v1_7)] → LX6_restore_27 k52 n o_8 v1_7 = some (r, o9) → W p l e rmX6_restore s m args below meth c H1 L1 0 0 (Qm G (some (.int r)) o9 rmX6_restore below args s) (F0 m 27 ls []) := by
  intro n
  induction n with
  | zero =>
    intro o_8 v1_7 H1 L1 ls P hl hf
    exact nomatch hf
  | succ n ih =>
    intro o_8 v1_7 H1 L1 ls P hl hf
    rw [LX6_restore_27.eq_2] at hf
    refine r_iload_n C hl 1 rfl rfl dX6_restore_27 ?_
    refine r_sipush C (v := 244) (by decide) dX6_restore_28 ?_
    refine r_icmp_ge C dX6_restore_31 hf (fun hf => ?_) (fun hf => ?_)
    · exact j52 o_8 _ _ _ P (lv_sub hl [0] rfl) hf
    · refine r_aload_n C hl 0 rfl rfl dX6_restore_34 ?_
      refine gf_19_1 C P rfl wd_880 dX6_restore_35 ?_
      refine r_iload_n C hl 1 rfl rfl dX6_restore_38 ?_
      refine r_aload_n C hl 0 rfl rfl dX6_restore_39 ?_
      refine gf_19_4 C P rfl wd_883 dX6_restore_40 ?_
      refine r_iload_n C hl 1 rfl rfl dX6_restore_43 ?_
      refine r_iald C P (k := 22) (i := 0) (n := 244) (fun _ _ => rfl) rfl dX6_restore_44 hf (fun hf => ?_)
      refine r_iast C P (k := 20) (i := 0) (n := 244) (fun _ _ => rfl) rfl dX6_restore_45 hf (fun o_9 H1 L1 P hf => ?_)
      refine r_iinc C (fun v1_10 => [(1, .int v1_10), (0, .ref (rA G 19 0))]) (w := 1) 1 hl rfl (by decide) (by decide) (fun _ => rfl) dX6_restore_46 hf (fun v1_10 ls hl hf => ?_)
      refine r_goto C dX6_restore_49 ?_
      exact ih o_9 v1_10 _ _ _ P (lv_sub hl [1, 0] rfl) hf
set_option maxHeartbeats 4000000 in
set_option maxRecDepth 100000 in
theorem wX6_restore {G : Gd} {p : Program} {l : Launch} {e : Env} {s : State} {m : MethodId} {args : Array Value} {below : List Frame} {meth : Method} {c : Code} {o : OM} {H : Heap} {L0 : List Loc} {ls : Array Slot} {r : Int32} {o9 : OM}  (C : Cx G RX6 cX6_restore 2 (some .int) p s m args meth c)  (P : Hp G o s H L0) (hl : lv_has ls 2 [(0, .ref (rA G 19 0))]) (hf : F_X6_restore o  = some (r, o9)) : W p l e rmX6_restore s m args below meth c H L0 0 0 (Qm G (some (.int r)) o9 rmX6_restore below args s) (F0 m 0 ls []) := by
  unfold F_X6_restore at hf
  refine r_aload_n C hl 0 rfl rfl dX6_restore_0 ?_
  refine r_aload_n C hl 0 rfl rfl dX6_restore_1 ?_
  refine gf_19_5 C P rfl wd_884 dX6_restore_2 ?_
  refine r_jn (fun k13 : Int32 → Option (Int32 × OM) => ∀ (s_1 : Int32) H1 L1 ls, Hp G o s H1 L1 → lv_has ls 2 [(0, .ref (rA G 19 0))] → k13 s_1 = some (r, o9) → W p l e rmX6_restore s m args below meth c H1 L1 0 0 (Qm G (some (.int r)) o9 rmX6_restore below args s) (F0 m 13 ls [.int s_1, .ref (rA G 19 0)])) hf ?_ (fun k13 j13 hf => ?_)
  · intro s_1 H1 L1 ls  P hl hf
    refine r_cVi C P cf_X6_87 (rm := rmX6_holds) 19 0 (fun _ _ => ⟨_, rfl⟩) rfl rfl rfl [.int s_1] [] hf (fun _ _ h => ctX6_holds l G o s_1 h) ⟨rfl, rfl⟩ ⟨Nat.le_of_ble_eq_true rfl, Nat.le_of_ble_eq_true rfl⟩ ⟨Nat.le_of_ble_eq_true rfl, Nat.le_of_ble_eq_true rfl⟩ rfl rfl hl.1 (Nat.le_of_ble_eq_true rfl) dX6_restore_13 (fun r_2 o_3 H1 L1 P hf => ?_)
    refine r_if_ne C dX6_restore_16 hf (fun hf => ?_) (fun hf => ?_)
    · refine r_aload_n C hl 0 rfl rfl dX6_restore_21 ?_
      refine r_cVv C P cf_X6_90 (rm := rmX6_save) 19 0 (fun _ _ => ⟨_, rfl⟩) rfl rfl rfl [] [] hf (fun _ _ h => ctX6_save l G o_3 h) ⟨rfl, rfl⟩ ⟨Nat.le_of_ble_eq_true rfl, Nat.le_of_ble_eq_true rfl⟩ ⟨Nat.le_of_ble_eq_true rfl, Nat.le_of_ble_eq_true rfl⟩ rfl rfl hl.1 (Nat.le_of_ble_eq_true rfl) dX6_restore_22 (fun _ o_5 H1 L1 P hf => ?_)
      refine r_iconst C (v := 0) (by decide) dX6_restore_25 ?_
      refine r_istore_n C [(1, .int ((0 : Int32))), (0, .ref (rA G 19 0))] hl (by decide) rfl rfl dX6_restore_26 (fun ls hl => ?_)
      refine r_jn (fun k52 : OM → Option (Int32 × OM) => ∀ (o_6 : OM) H1 L1 ls, Hp G o_6 s H1 L1 → lv_has ls 2 [(0, .ref (rA G 19 0))] → k52 o_6 = some (r, o9) → W p l e rmX6_restore s m args below meth c H1 L1 0 0 (Qm G (some (.int r)) o9 rmX6_restore below args s) (F0 m 52 ls [])) hf ?_ (fun k52 j52 hf => ?_)
      · intro o_6 H1 L1 ls  P hl hf
        refine r_aload_n C hl 0 rfl rfl dX6_restore_52 ?_
        refine gf_19_1 C P rfl wd_880 dX6_restore_53 ?_
        refine r_sipush C (v := 233) (by decide) dX6_restore_56 ?_
        refine r_iald C P (k := 20) (i := 0) (n := 244) (fun _ _ => rfl) rfl dX6_restore_59 hf (fun hf => ?_)
        exact r_iret C P (rm := rmX6_restore) ⟨rfl, rfl⟩ dX6_restore_60 hf
      exact lX6_restore_27 C  j52 FU o_5 ((0 : Int32)) _ _ _ P (lv_sub hl [1, 0] rfl) hf
    · refine r_iconst C (v := 0) (by decide) dX6_restore_19 ?_
      exact r_iret C P (rm := rmX6_restore) ⟨rfl, rfl⟩ dX6_restore_20 hf
  refine r_if_eq C dX6_restore_5 hf (fun hf => ?_) (fun hf => ?_)
  · refine r_iconst C (v := 1) (by decide) dX6_restore_12 ?_
    exact j13 ((1 : Int32)) _ _ _ P (lv_sub hl [0] rfl) hf
  · refine r_iconst C (v := 0) (by decide) dX6_restore_8 ?_
    refine r_goto C dX6_restore_9 ?_
    exact j13 ((0 : Int32)) _ _ _ P (lv_sub hl [0] rfl) hf
theorem ctX6_restore (l : Launch) (G : Gd) (o : OM)   {r : Int32} {o9 : OM} (hf : F_X6_restore o  = some (r, o9)) : Ct l yX6_restore cX6_restore 2 (some .int) rmX6_restore G [.ref (rA G 19 0)] o (some (.int r)) o9 := ct_of (by decide +kernel) (Nat.le_of_ble_eq_true rfl) (fun p e s m below meth c ls C P hl => wX6_restore C  P hl hf)
theorem dX6_reads_0 : Dc cX6_reads 0 (.aload_n 0) 1 1 := ⟨by decide +kernel, rfl⟩
theorem dX6_reads_1 : Dc cX6_reads 1 (.aload_n 0) 1 2 := ⟨by decide +kernel, rfl⟩
theorem dX6_reads_2 : Dc cX6_reads 2 (.iload_n 1) 1 3 := ⟨by decide +kernel, rfl⟩
theorem dX6_reads_3 : Dc cX6_reads 3 (.invokevirtual 96) 3 6 := ⟨by decide +kernel, rfl⟩
theorem dX6_reads_6 : Dj cX6_reads 6 (.ifCond .ne 7) 3 9 (7) 13 := ⟨by decide +kernel, rfl, by decide⟩
theorem dX6_reads_9 : Dc cX6_reads 9 (.iconst 1) 1 10 := ⟨by decide +kernel, rfl⟩
theorem dX6_reads_10 : Dj cX6_reads 10 (.goto 15) 3 13 (15) 25 := ⟨by decide +kernel, rfl, by decide⟩
theorem dX6_reads_13 : Dc cX6_reads 13 (.iload_n 2) 1 14 := ⟨by decide +kernel, rfl⟩
theorem dX6_reads_14 : Dc cX6_reads 14 (.invokestatic 102) 3 17 := ⟨by decide +kernel, rfl⟩
theorem dX6_reads_17 : Dj cX6_reads 17 (.ifCond .eq 7) 3 20 (7) 24 := ⟨by decide +kernel, rfl, by decide⟩
theorem dX6_reads_20 : Dc cX6_reads 20 (.iconst 0) 1 21 := ⟨by decide +kernel, rfl⟩
theorem dX6_reads_21 : Dj cX6_reads 21 (.goto 4) 3 24 (4) 25 := ⟨by decide +kernel, rfl, by decide⟩
theorem dX6_reads_24 : Dc cX6_reads 24 (.iconst 2) 1 25 := ⟨by decide +kernel, rfl⟩
theorem dX6_reads_25 : Dc cX6_reads 25 (.invokevirtual 87) 3 28 := ⟨by decide +kernel, rfl⟩
theorem dX6_reads_28 : Dj cX6_reads 28 (.ifCond .eq 16) 3 31 (16) 44 := ⟨by decide +kernel, rfl, by decide⟩
theorem dX6_reads_31 : Dc cX6_reads 31 (.aload_n 0) 1 32 := ⟨by decide +kernel, rfl⟩
theorem dX6_reads_32 : Dc cX6_reads 32 (.iload_n 1) 1 33 := ⟨by decide +kernel, rfl⟩
theorem dX6_reads_33 : Dc cX6_reads 33 (.iload_n 2) 1 34 := ⟨by decide +kernel, rfl⟩
theorem dX6_reads_34 : Dc cX6_reads 34 (.invokevirtual 50) 3 37 := ⟨by decide +kernel, rfl⟩
theorem dX6_reads_37 : Dc cX6_reads 37 (.sipush 10000) 3 40 := ⟨by decide +kernel, rfl⟩
theorem dX6_reads_40 : Dc cX6_reads 40 (.iadd) 1 41 := ⟨by decide +kernel, rfl⟩
theorem dX6_reads_41 : Dj cX6_reads 41 (.goto 4) 3 44 (4) 45 := ⟨by decide +kernel, rfl, by decide⟩
theorem dX6_reads_44 : Dc cX6_reads 44 (.iconst 0) 1 45 := ⟨by decide +kernel, rfl⟩
theorem dX6_reads_45 : Dc cX6_reads 45 (.ireturn) 1 46 := ⟨by decide +kernel, rfl⟩
def F_X6_reads (o : OM) (v1 : Int32) (v2 : Int32) : Option (Int32 × OM) := bq (F_X6_isThere o v1) (fun r_1 => bd (fun (s_2 : Int32) => bn (F_X6_holds o s_2) (fun r_3 o_4 => bd (fun (s_5 : Int32) => some (s_5, o_4)) (fun k45 => if r_3 = 0 then (k45 ((0 : Int32))) else (bq (F_X6_readingOf o_4 v1 v2) (fun r_6 => k45 (r_6 + ((10000 : Int32)))))))) (fun k25 => if r_1 = 0 then (k25 ((1 : Int32))) else (bq (F_X6_isDegree o v2) (fun r_7 => if r_7 = 0 then (k25 ((2 : Int32))) else (k25 ((0 : Int32)))))))
abbrev rmX6_reads : Room := { frames := 3, cells := 0, slots := 0, locals := 65 }
set_option maxHeartbeats 4000000 in
set_option maxRecDepth 100000 in
theorem wX6_reads {G : Gd} {p : Program} {l : Launch} {e : Env} {s : State} {m : MethodId} {args : Array Value} {below : List Frame} {meth : Method} {c : Code} {o : OM} {H : Heap} {L0 : List Loc} {ls : Array Slot} {r : Int32} {o9 : OM} {v1 : Int32} {v2 : Int32} (C : Cx G RX6 cX6_reads 3 (some .int) p s m args meth c)  (P : Hp G o s H L0) (hl : lv_has ls 3 [(0, .ref (rA G 19 0)), (1, .int v1), (2, .int v2)]) (hf : F_X6_reads o v1 v2 = some (r, o9)) : W p l e rmX6_reads s m args below meth c H L0 0 0 (Qm G (some (.int r)) o9 rmX6_reads below args s) (F0 m 0 ls []) := by
  unfold F_X6_reads at hf
  refine r_aload_n C hl 0 rfl rfl dX6_reads_0 ?_
  refine r_aload_n C hl 0 rfl rfl dX6_reads_1 ?_
  refine r_iload_n C hl 1 rfl rfl dX6_reads_2 ?_
  refine r_qVi C P cf_X6_96 (rm := rmX6_isThere) 19 0 (fun _ _ => ⟨_, rfl⟩) rfl rfl rfl [.int v1] [.ref (rA G 19 0)] hf (fun _ h => ctX6_isThere l G o v1 h) ⟨rfl, rfl⟩ ⟨Nat.le_of_ble_eq_true rfl, Nat.le_of_ble_eq_true rfl⟩ ⟨Nat.le_of_ble_eq_true rfl, Nat.le_of_ble_eq_true rfl⟩ rfl rfl hl.1 (Nat.le_of_ble_eq_true rfl) dX6_reads_3 (fun r_1 H1 L1 P hf => ?_)
  refine r_jn (fun k25 : Int32 → Option (Int32 × OM) => ∀ (s_2 : Int32) H1 L1 ls, Hp G o s H1 L1 → lv_has ls 3 [(0, .ref (rA G 19 0)), (1, .int v1), (2, .int v2)] → k25 s_2 = some (r, o9) → W p l e rmX6_reads s m args below meth c H1 L1 0 0 (Qm G (some (.int r)) o9 rmX6_reads below args s) (F0 m 25 ls [.int s_2, .ref (rA G 19 0)])) hf ?_ (fun k25 j25 hf => ?_)
  · intro s_2 H1 L1 ls  P hl hf
    refine r_cVi C P cf_X6_87 (rm := rmX6_holds) 19 0 (fun _ _ => ⟨_, rfl⟩) rfl rfl rfl [.int s_2] [] hf (fun _ _ h => ctX6_holds l G o s_2 h) ⟨rfl, rfl⟩ ⟨Nat.le_of_ble_eq_true rfl, Nat.le_of_ble_eq_true rfl⟩ ⟨Nat.le_of_ble_eq_true rfl, Nat.le_of_ble_eq_true rfl⟩ rfl rfl hl.1 (Nat.le_of_ble_eq_true rfl) dX6_reads_25 (fun r_3 o_4 H1 L1 P hf => ?_)
    refine r_jn (fun k45 : Int32 → Option (Int32 × OM) => ∀ (s_5 : Int32) H1 L1 ls, Hp G o_4 s H1 L1 → lv_has ls 3 [] → k45 s_5 = some (r, o9) → W p l e rmX6_reads s m args below meth c H1 L1 0 0 (Qm G (some (.int r)) o9 rmX6_reads below args s) (F0 m 45 ls [.int s_5])) hf ?_ (fun k45 j45 hf => ?_)
    · intro s_5 H1 L1 ls  P hl hf
      exact r_iret C P (rm := rmX6_reads) ⟨rfl, rfl⟩ dX6_reads_45 hf
    refine r_if_eq C dX6_reads_28 hf (fun hf => ?_) (fun hf => ?_)
    · refine r_iconst C (v := 0) (by decide) dX6_reads_44 ?_
      exact j45 ((0 : Int32)) _ _ _ P (lv_sub hl [] rfl) hf
    · refine r_aload_n C hl 0 rfl rfl dX6_reads_31 ?_
      refine r_iload_n C hl 1 rfl rfl dX6_reads_32 ?_
      refine r_iload_n C hl 2 rfl rfl dX6_reads_33 ?_
      refine r_qVi C P cf_X6_50 (rm := rmX6_readingOf) 19 0 (fun _ _ => ⟨_, rfl⟩) rfl rfl rfl [.int v1, .int v2] [] hf (fun _ h => ctX6_readingOf l G o_4 v1 v2 h) ⟨rfl, rfl⟩ ⟨Nat.le_of_ble_eq_true rfl, Nat.le_of_ble_eq_true rfl⟩ ⟨Nat.le_of_ble_eq_true rfl, Nat.le_of_ble_eq_true rfl⟩ rfl rfl hl.1 (Nat.le_of_ble_eq_true rfl) dX6_reads_34 (fun r_6 H1 L1 P hf => ?_)
      refine r_sipush C (v := 10000) (by decide) dX6_reads_37 ?_
      refine r_iadd2 C dX6_reads_40 ?_
      refine r_goto C dX6_reads_41 ?_
      exact j45 (r_6 + ((10000 : Int32))) _ _ _ P (lv_sub hl [] rfl) hf
  refine r_if_ne C dX6_reads_6 hf (fun hf => ?_) (fun hf => ?_)
  · refine r_iload_n C hl 2 rfl rfl dX6_reads_13 ?_
    refine r_qSi C P cf_X6_102 (rm := rmX6_isDegree) [.int v2] [.ref (rA G 19 0)] hf (fun _ h => ctX6_isDegree l G o v2 h) ⟨rfl, rfl⟩ ⟨Nat.le_of_ble_eq_true rfl, Nat.le_of_ble_eq_true rfl⟩ ⟨Nat.le_of_ble_eq_true rfl, Nat.le_of_ble_eq_true rfl⟩ rfl rfl hl.1 (Nat.le_of_ble_eq_true rfl) dX6_reads_14 (fun r_7 H1 L1 P hf => ?_)
    refine r_if_eq C dX6_reads_17 hf (fun hf => ?_) (fun hf => ?_)
    · refine r_iconst C (v := 2) (by decide) dX6_reads_24 ?_
      exact j25 ((2 : Int32)) _ _ _ P (lv_sub hl [0, 1, 2] rfl) hf
    · refine r_iconst C (v := 0) (by decide) dX6_reads_20 ?_
      refine r_goto C dX6_reads_21 ?_
      exact j25 ((0 : Int32)) _ _ _ P (lv_sub hl [0, 1, 2] rfl) hf
  · refine r_iconst C (v := 1) (by decide) dX6_reads_9 ?_
    refine r_goto C dX6_reads_10 ?_
    exact j25 ((1 : Int32)) _ _ _ P (lv_sub hl [0, 1, 2] rfl) hf
theorem ctX6_reads (l : Launch) (G : Gd) (o : OM) (v1 : Int32) (v2 : Int32)  {r : Int32} {o9 : OM} (hf : F_X6_reads o v1 v2 = some (r, o9)) : Ct l yX6_reads cX6_reads 3 (some .int) rmX6_reads G [.ref (rA G 19 0), .int v1, .int v2] o (some (.int r)) o9 := ct_of (by decide +kernel) (Nat.le_of_ble_eq_true rfl) (fun p e s m below meth c ls C P hl => wX6_reads C  P hl hf)
theorem dX6_correctedOr_0 : Dc cX6_correctedOr 0 (.aload_n 0) 1 1 := ⟨by decide +kernel, rfl⟩
theorem dX6_correctedOr_1 : Dc cX6_correctedOr 1 (.iload_n 1) 1 2 := ⟨by decide +kernel, rfl⟩
theorem dX6_correctedOr_2 : Dc cX6_correctedOr 2 (.invokevirtual 67) 3 5 := ⟨by decide +kernel, rfl⟩
theorem dX6_correctedOr_5 : Dj cX6_correctedOr 5 (.ifCond .eq 15) 3 8 (15) 20 := ⟨by decide +kernel, rfl, by decide⟩
theorem dX6_correctedOr_8 : Dc cX6_correctedOr 8 (.aload_n 0) 1 9 := ⟨by decide +kernel, rfl⟩
theorem dX6_correctedOr_9 : Dc cX6_correctedOr 9 (.iload_n 1) 1 10 := ⟨by decide +kernel, rfl⟩
theorem dX6_correctedOr_10 : Dc cX6_correctedOr 10 (.iload_n 2) 1 11 := ⟨by decide +kernel, rfl⟩
theorem dX6_correctedOr_11 : Dc cX6_correctedOr 11 (.invokevirtual 71) 3 14 := ⟨by decide +kernel, rfl⟩
theorem dX6_correctedOr_14 : Dc cX6_correctedOr 14 (.ldc 178) 2 16 := ⟨by decide +kernel, rfl⟩
theorem dX6_correctedOr_16 : Dc cX6_correctedOr 16 (.iadd) 1 17 := ⟨by decide +kernel, rfl⟩
theorem dX6_correctedOr_17 : Dj cX6_correctedOr 17 (.goto 4) 3 20 (4) 21 := ⟨by decide +kernel, rfl, by decide⟩
theorem dX6_correctedOr_20 : Dc cX6_correctedOr 20 (.iconst (-1)) 1 21 := ⟨by decide +kernel, rfl⟩
theorem dX6_correctedOr_21 : Dc cX6_correctedOr 21 (.ireturn) 1 22 := ⟨by decide +kernel, rfl⟩
def F_X6_correctedOr (o : OM) (v1 : Int32) (v2 : Int32) : Option Int32 := bq (F_X6_areEnough o v1) (fun r_1 => bd (fun (s_2 : Int32) => some s_2) (fun k21 => if r_1 = 0 then (k21 ((-1 : Int32))) else (bq (F_X6_correction o v1 v2) (fun r_3 => k21 (r_3 + ((10000000 : Int32)))))))
abbrev rmX6_correctedOr : Room := { frames := 4, cells := 0, slots := 0, locals := 99 }
set_option maxHeartbeats 4000000 in
set_option maxRecDepth 100000 in
theorem wX6_correctedOr {G : Gd} {p : Program} {l : Launch} {e : Env} {s : State} {m : MethodId} {args : Array Value} {below : List Frame} {meth : Method} {c : Code} {o : OM} {H : Heap} {L0 : List Loc} {ls : Array Slot} {r : Int32} {v1 : Int32} {v2 : Int32} (C : Cx G RX6 cX6_correctedOr 3 (some .int) p s m args meth c)  (P : Hp G o s H L0) (hl : lv_has ls 3 [(0, .ref (rA G 19 0)), (1, .int v1), (2, .int v2)]) (hf : F_X6_correctedOr o v1 v2 = some r) : W p l e rmX6_correctedOr s m args below meth c H L0 0 0 (Qm G (some (.int r)) o rmX6_correctedOr below args s) (F0 m 0 ls []) := by
  unfold F_X6_correctedOr at hf
  refine r_aload_n C hl 0 rfl rfl dX6_correctedOr_0 ?_
  refine r_iload_n C hl 1 rfl rfl dX6_correctedOr_1 ?_
  refine r_qVi C P cf_X6_67 (rm := rmX6_areEnough) 19 0 (fun _ _ => ⟨_, rfl⟩) rfl rfl rfl [.int v1] [] hf (fun _ h => ctX6_areEnough l G o v1 h) ⟨rfl, rfl⟩ ⟨Nat.le_of_ble_eq_true rfl, Nat.le_of_ble_eq_true rfl⟩ ⟨Nat.le_of_ble_eq_true rfl, Nat.le_of_ble_eq_true rfl⟩ rfl rfl hl.1 (Nat.le_of_ble_eq_true rfl) dX6_correctedOr_2 (fun r_1 H1 L1 P hf => ?_)
  refine r_jn (fun k21 : Int32 → Option Int32 => ∀ (s_2 : Int32) H1 L1 ls, Hp G o s H1 L1 → lv_has ls 3 [] → k21 s_2 = some r → W p l e rmX6_correctedOr s m args below meth c H1 L1 0 0 (Qm G (some (.int r)) o rmX6_correctedOr below args s) (F0 m 21 ls [.int s_2])) hf ?_ (fun k21 j21 hf => ?_)
  · intro s_2 H1 L1 ls  P hl hf
    exact q_iret C P (rm := rmX6_correctedOr) ⟨rfl, rfl⟩ dX6_correctedOr_21 hf
  refine r_if_eq C dX6_correctedOr_5 hf (fun hf => ?_) (fun hf => ?_)
  · refine r_iconst C (v := -1) (by decide) dX6_correctedOr_20 ?_
    exact j21 ((-1 : Int32)) _ _ _ P (lv_sub hl [] rfl) hf
  · refine r_aload_n C hl 0 rfl rfl dX6_correctedOr_8 ?_
    refine r_iload_n C hl 1 rfl rfl dX6_correctedOr_9 ?_
    refine r_iload_n C hl 2 rfl rfl dX6_correctedOr_10 ?_
    refine r_qVi C P cf_X6_71 (rm := rmX6_correction) 19 0 (fun _ _ => ⟨_, rfl⟩) rfl rfl rfl [.int v1, .int v2] [] hf (fun _ h => ctX6_correction l G o v1 v2 h) ⟨rfl, rfl⟩ ⟨Nat.le_of_ble_eq_true rfl, Nat.le_of_ble_eq_true rfl⟩ ⟨Nat.le_of_ble_eq_true rfl, Nat.le_of_ble_eq_true rfl⟩ rfl rfl hl.1 (Nat.le_of_ble_eq_true rfl) dX6_correctedOr_11 (fun r_3 H1 L1 P hf => ?_)
    refine r_ldc C wd_1147 dX6_correctedOr_14 ?_
    refine r_iadd2 C dX6_correctedOr_16 ?_
    refine r_goto C dX6_correctedOr_17 ?_
    exact j21 (r_3 + ((10000000 : Int32))) _ _ _ P (lv_sub hl [] rfl) hf
theorem ctX6_correctedOr (l : Launch) (G : Gd) (o : OM) (v1 : Int32) (v2 : Int32)  {r : Int32} (hf : F_X6_correctedOr o v1 v2 = some r) : Ct l yX6_correctedOr cX6_correctedOr 3 (some .int) rmX6_correctedOr G [.ref (rA G 19 0), .int v1, .int v2] o (some (.int r)) o := ct_of (by decide +kernel) (Nat.le_of_ble_eq_true rfl) (fun p e s m below meth c ls C P hl => wX6_correctedOr C  P hl hf)
theorem cf_X6_179 : CallF false RX6 179 yX6_correctedOr cX6_correctedOr 3 (some .int) 2 := ⟨wd_1143, (by rw [if_neg (by decide)]; exact ⟨wd_1145, wd_51⟩), wd_71, wd_1146, by decide, by decide +kernel⟩
theorem dX6_corrected_0 : Dc cX6_corrected 0 (.iload_n 2) 1 1 := ⟨by decide +kernel, rfl⟩
theorem dX6_corrected_1 : Dc cX6_corrected 1 (.sipush (-999)) 3 4 := ⟨by decide +kernel, rfl⟩
theorem dX6_corrected_4 : Dc cX6_corrected 4 (.sipush 1999) 3 7 := ⟨by decide +kernel, rfl⟩
theorem dX6_corrected_7 : Dc cX6_corrected 7 (.invokestatic 26) 3 10 := ⟨by decide +kernel, rfl⟩
theorem dX6_corrected_10 : Dj cX6_corrected 10 (.ifCond .eq 16) 3 13 (16) 26 := ⟨by decide +kernel, rfl, by decide⟩
theorem dX6_corrected_13 : Dc cX6_corrected 13 (.iload_n 3) 1 14 := ⟨by decide +kernel, rfl⟩
theorem dX6_corrected_14 : Dc cX6_corrected 14 (.iconst 0) 1 15 := ⟨by decide +kernel, rfl⟩
theorem dX6_corrected_15 : Dc cX6_corrected 15 (.iconst 1) 1 16 := ⟨by decide +kernel, rfl⟩
theorem dX6_corrected_16 : Dc cX6_corrected 16 (.invokestatic 26) 3 19 := ⟨by decide +kernel, rfl⟩
theorem dX6_corrected_19 : Dj cX6_corrected 19 (.ifCond .eq 7) 3 22 (7) 26 := ⟨by decide +kernel, rfl, by decide⟩
theorem dX6_corrected_22 : Dc cX6_corrected 22 (.iconst 1) 1 23 := ⟨by decide +kernel, rfl⟩
theorem dX6_corrected_23 : Dj cX6_corrected 23 (.goto 4) 3 26 (4) 27 := ⟨by decide +kernel, rfl, by decide⟩
theorem dX6_corrected_26 : Dc cX6_corrected 26 (.iconst 0) 1 27 := ⟨by decide +kernel, rfl⟩
theorem dX6_corrected_27 : Dc cX6_corrected 27 (.istore 4) 2 29 := ⟨by decide +kernel, rfl⟩
theorem dX6_corrected_29 : Dc cX6_corrected 29 (.aload_n 0) 1 30 := ⟨by decide +kernel, rfl⟩
theorem dX6_corrected_30 : Dc cX6_corrected 30 (.aload_n 0) 1 31 := ⟨by decide +kernel, rfl⟩
theorem dX6_corrected_31 : Dc cX6_corrected 31 (.iload_n 1) 1 32 := ⟨by decide +kernel, rfl⟩
theorem dX6_corrected_32 : Dc cX6_corrected 32 (.invokevirtual 96) 3 35 := ⟨by decide +kernel, rfl⟩
theorem dX6_corrected_35 : Dj cX6_corrected 35 (.ifCond .ne 7) 3 38 (7) 42 := ⟨by decide +kernel, rfl, by decide⟩
theorem dX6_corrected_38 : Dc cX6_corrected 38 (.iconst 1) 1 39 := ⟨by decide +kernel, rfl⟩
theorem dX6_corrected_39 : Dj cX6_corrected 39 (.goto 13) 3 42 (13) 52 := ⟨by decide +kernel, rfl, by decide⟩
theorem dX6_corrected_42 : Dc cX6_corrected 42 (.iload 4) 2 44 := ⟨by decide +kernel, rfl⟩
theorem dX6_corrected_44 : Dj cX6_corrected 44 (.ifCond .eq 7) 3 47 (7) 51 := ⟨by decide +kernel, rfl, by decide⟩
theorem dX6_corrected_47 : Dc cX6_corrected 47 (.iconst 0) 1 48 := ⟨by decide +kernel, rfl⟩
theorem dX6_corrected_48 : Dj cX6_corrected 48 (.goto 4) 3 51 (4) 52 := ⟨by decide +kernel, rfl, by decide⟩
theorem dX6_corrected_51 : Dc cX6_corrected 51 (.iconst 2) 1 52 := ⟨by decide +kernel, rfl⟩
theorem dX6_corrected_52 : Dc cX6_corrected 52 (.invokevirtual 87) 3 55 := ⟨by decide +kernel, rfl⟩
theorem dX6_corrected_55 : Dj cX6_corrected 55 (.ifCond .eq 12) 3 58 (12) 67 := ⟨by decide +kernel, rfl, by decide⟩
theorem dX6_corrected_58 : Dc cX6_corrected 58 (.aload_n 0) 1 59 := ⟨by decide +kernel, rfl⟩
theorem dX6_corrected_59 : Dc cX6_corrected 59 (.iload_n 1) 1 60 := ⟨by decide +kernel, rfl⟩
theorem dX6_corrected_60 : Dc cX6_corrected 60 (.iload_n 2) 1 61 := ⟨by decide +kernel, rfl⟩
theorem dX6_corrected_61 : Dc cX6_corrected 61 (.invokevirtual 179) 3 64 := ⟨by decide +kernel, rfl⟩
theorem dX6_corrected_64 : Dj cX6_corrected 64 (.goto 4) 3 67 (4) 68 := ⟨by decide +kernel, rfl, by decide⟩
theorem dX6_corrected_67 : Dc cX6_corrected 67 (.iconst 0) 1 68 := ⟨by decide +kernel, rfl⟩
theorem dX6_corrected_68 : Dc cX6_corrected 68 (.ireturn) 1 69 := ⟨by decide +kernel, rfl⟩
def F_X6_corrected (o : OM) (v1 : Int32) (v2 : Int32) (v3 : Int32) : Option (Int32 × OM) := bq (F_X6_in o v2 ((-999 : Int32)) ((1999 : Int32))) (fun r_1 => bd (fun (s_2 : Int32) => bq (F_X6_isThere o v1) (fun r_3 => bd (fun (s_4 : Int32) => bn (F_X6_holds o s_4) (fun r_5 o_6 => bd (fun (s_7 : Int32) => some (s_7, o_6)) (fun k68 => if r_5 = 0 then (k68 ((0 : Int32))) else (bq (F_X6_correctedOr o_6 v1 v2) (fun r_8 => k68 r_8))))) (fun k52 => if r_3 = 0 then (k52 ((1 : Int32))) else (if s_2 = 0 then (k52 ((2 : Int32))) else (k52 ((0 : Int32))))))) (fun k27 => bd (fun (_ : Unit) => k27 ((0 : Int32))) (fun k26 => if r_1 = 0 then (k26 ()) else (bq (F_X6_in o v3 ((0 : Int32)) ((1 : Int32))) (fun r_9 => if r_9 = 0 then (k26 ()) else (k27 ((1 : Int32))))))))
abbrev rmX6_corrected : Room := { frames := 5, cells := 0, slots := 0, locals := 121 }
set_option maxHeartbeats 4000000 in
set_option maxRecDepth 100000 in
theorem wX6_corrected {G : Gd} {p : Program} {l : Launch} {e : Env} {s : State} {m : MethodId} {args : Array Value} {below : List Frame} {meth : Method} {c : Code} {o : OM} {H : Heap} {L0 : List Loc} {ls : Array Slot} {r : Int32} {o9 : OM} {v1 : Int32} {v2 : Int32} {v3 : Int32} (C : Cx G RX6 cX6_corrected 5 (some .int) p s m args meth c)  (P : Hp G o s H L0) (hl : lv_has ls 5 [(0, .ref (rA G 19 0)), (1, .int v1), (2, .int v2), (3, .int v3)]) (hf : F_X6_corrected o v1 v2 v3 = some (r, o9)) : W p l e rmX6_corrected s m args below meth c H L0 0 0 (Qm G (some (.int r)) o9 rmX6_corrected below args s) (F0 m 0 ls []) := by
  unfold F_X6_corrected at hf
  refine r_iload_n C hl 2 rfl rfl dX6_corrected_0 ?_
  refine r_sipush C (v := -999) (by decide) dX6_corrected_1 ?_
  refine r_sipush C (v := 1999) (by decide) dX6_corrected_4 ?_
  refine r_qSi C P cf_X6_26 (rm := rmX6_in) [.int v2, .int ((-999 : Int32)), .int ((1999 : Int32))] [] hf (fun _ h => ctX6_in l G o v2 ((-999 : Int32)) ((1999 : Int32)) h) ⟨rfl, rfl⟩ ⟨Nat.le_of_ble_eq_true rfl, Nat.le_of_ble_eq_true rfl⟩ ⟨Nat.le_of_ble_eq_true rfl, Nat.le_of_ble_eq_true rfl⟩ rfl rfl hl.1 (Nat.le_of_ble_eq_true rfl) dX6_corrected_7 (fun r_1 H1 L1 P hf => ?_)
  refine r_jn (fun k27 : Int32 → Option (Int32 × OM) => ∀ (s_2 : Int32) H1 L1 ls, Hp G o s H1 L1 → lv_has ls 5 [(0, .ref (rA G 19 0)), (1, .int v1), (2, .int v2)] → k27 s_2 = some (r, o9) → W p l e rmX6_corrected s m args below meth c H1 L1 0 0 (Qm G (some (.int r)) o9 rmX6_corrected below args s) (F0 m 27 ls [.int s_2])) hf ?_ (fun k27 j27 hf => ?_)
  · intro s_2 H1 L1 ls  P hl hf
    refine r_istore C [(4, .int s_2), (0, .ref (rA G 19 0)), (1, .int v1), (2, .int v2)] hl (by decide) rfl dX6_corrected_27 (fun ls hl => ?_)
    refine r_aload_n C hl 1 rfl rfl dX6_corrected_29 ?_
    refine r_aload_n C hl 1 rfl rfl dX6_corrected_30 ?_
    refine r_iload_n C hl 2 rfl rfl dX6_corrected_31 ?_
    refine r_qVi C P cf_X6_96 (rm := rmX6_isThere) 19 0 (fun _ _ => ⟨_, rfl⟩) rfl rfl rfl [.int v1] [.ref (rA G 19 0)] hf (fun _ h => ctX6_isThere l G o v1 h) ⟨rfl, rfl⟩ ⟨Nat.le_of_ble_eq_true rfl, Nat.le_of_ble_eq_true rfl⟩ ⟨Nat.le_of_ble_eq_true rfl, Nat.le_of_ble_eq_true rfl⟩ rfl rfl hl.1 (Nat.le_of_ble_eq_true rfl) dX6_corrected_32 (fun r_3 H1 L1 P hf => ?_)
    refine r_jn (fun k52 : Int32 → Option (Int32 × OM) => ∀ (s_4 : Int32) H1 L1 ls, Hp G o s H1 L1 → lv_has ls 5 [(0, .ref (rA G 19 0)), (1, .int v1), (2, .int v2)] → k52 s_4 = some (r, o9) → W p l e rmX6_corrected s m args below meth c H1 L1 0 0 (Qm G (some (.int r)) o9 rmX6_corrected below args s) (F0 m 52 ls [.int s_4, .ref (rA G 19 0)])) hf ?_ (fun k52 j52 hf => ?_)
    · intro s_4 H1 L1 ls  P hl hf
      refine r_cVi C P cf_X6_87 (rm := rmX6_holds) 19 0 (fun _ _ => ⟨_, rfl⟩) rfl rfl rfl [.int s_4] [] hf (fun _ _ h => ctX6_holds l G o s_4 h) ⟨rfl, rfl⟩ ⟨Nat.le_of_ble_eq_true rfl, Nat.le_of_ble_eq_true rfl⟩ ⟨Nat.le_of_ble_eq_true rfl, Nat.le_of_ble_eq_true rfl⟩ rfl rfl hl.1 (Nat.le_of_ble_eq_true rfl) dX6_corrected_52 (fun r_5 o_6 H1 L1 P hf => ?_)
      refine r_jn (fun k68 : Int32 → Option (Int32 × OM) => ∀ (s_7 : Int32) H1 L1 ls, Hp G o_6 s H1 L1 → lv_has ls 5 [] → k68 s_7 = some (r, o9) → W p l e rmX6_corrected s m args below meth c H1 L1 0 0 (Qm G (some (.int r)) o9 rmX6_corrected below args s) (F0 m 68 ls [.int s_7])) hf ?_ (fun k68 j68 hf => ?_)
      · intro s_7 H1 L1 ls  P hl hf
        exact r_iret C P (rm := rmX6_corrected) ⟨rfl, rfl⟩ dX6_corrected_68 hf
      refine r_if_eq C dX6_corrected_55 hf (fun hf => ?_) (fun hf => ?_)
      · refine r_iconst C (v := 0) (by decide) dX6_corrected_67 ?_
        exact j68 ((0 : Int32)) _ _ _ P (lv_sub hl [] rfl) hf
      · refine r_aload_n C hl 0 rfl rfl dX6_corrected_58 ?_
        refine r_iload_n C hl 1 rfl rfl dX6_corrected_59 ?_
        refine r_iload_n C hl 2 rfl rfl dX6_corrected_60 ?_
        refine r_qVi C P cf_X6_179 (rm := rmX6_correctedOr) 19 0 (fun _ _ => ⟨_, rfl⟩) rfl rfl rfl [.int v1, .int v2] [] hf (fun _ h => ctX6_correctedOr l G o_6 v1 v2 h) ⟨rfl, rfl⟩ ⟨Nat.le_of_ble_eq_true rfl, Nat.le_of_ble_eq_true rfl⟩ ⟨Nat.le_of_ble_eq_true rfl, Nat.le_of_ble_eq_true rfl⟩ rfl rfl hl.1 (Nat.le_of_ble_eq_true rfl) dX6_corrected_61 (fun r_8 H1 L1 P hf => ?_)
        refine r_goto C dX6_corrected_64 ?_
        exact j68 r_8 _ _ _ P (lv_sub hl [] rfl) hf
    refine r_if_ne C dX6_corrected_35 hf (fun hf => ?_) (fun hf => ?_)
    · refine r_iload C hl 0 rfl dX6_corrected_42 ?_
      refine r_if_eq C dX6_corrected_44 hf (fun hf => ?_) (fun hf => ?_)
      · refine r_iconst C (v := 2) (by decide) dX6_corrected_51 ?_
        exact j52 ((2 : Int32)) _ _ _ P (lv_sub hl [1, 2, 3] rfl) hf
      · refine r_iconst C (v := 0) (by decide) dX6_corrected_47 ?_
        refine r_goto C dX6_corrected_48 ?_
        exact j52 ((0 : Int32)) _ _ _ P (lv_sub hl [1, 2, 3] rfl) hf
    · refine r_iconst C (v := 1) (by decide) dX6_corrected_38 ?_
      refine r_goto C dX6_corrected_39 ?_
      exact j52 ((1 : Int32)) _ _ _ P (lv_sub hl [1, 2, 3] rfl) hf
  refine r_jn (fun k26 : Unit → Option (Int32 × OM) => ∀ H1 L1 ls, Hp G o s H1 L1 → lv_has ls 5 [(0, .ref (rA G 19 0)), (1, .int v1), (2, .int v2)] → k26 () = some (r, o9) → W p l e rmX6_corrected s m args below meth c H1 L1 0 0 (Qm G (some (.int r)) o9 rmX6_corrected below args s) (F0 m 26 ls [])) hf ?_ (fun k26 j26 hf => ?_)
  · intro  H1 L1 ls  P hl hf
    refine r_iconst C (v := 0) (by decide) dX6_corrected_26 ?_
    exact j27 ((0 : Int32)) _ _ _ P (lv_sub hl [0, 1, 2] rfl) hf
  refine r_if_eq C dX6_corrected_10 hf (fun hf => ?_) (fun hf => ?_)
  · exact j26  _ _ _ P (lv_sub hl [0, 1, 2] rfl) hf
  · refine r_iload_n C hl 3 rfl rfl dX6_corrected_13 ?_
    refine r_iconst C (v := 0) (by decide) dX6_corrected_14 ?_
    refine r_iconst C (v := 1) (by decide) dX6_corrected_15 ?_
    refine r_qSi C P cf_X6_26 (rm := rmX6_in) [.int v3, .int ((0 : Int32)), .int ((1 : Int32))] [] hf (fun _ h => ctX6_in l G o v3 ((0 : Int32)) ((1 : Int32)) h) ⟨rfl, rfl⟩ ⟨Nat.le_of_ble_eq_true rfl, Nat.le_of_ble_eq_true rfl⟩ ⟨Nat.le_of_ble_eq_true rfl, Nat.le_of_ble_eq_true rfl⟩ rfl rfl hl.1 (Nat.le_of_ble_eq_true rfl) dX6_corrected_16 (fun r_9 H1 L1 P hf => ?_)
    refine r_if_eq C dX6_corrected_19 hf (fun hf => ?_) (fun hf => ?_)
    · exact j26  _ _ _ P (lv_sub hl [0, 1, 2] rfl) hf
    · refine r_iconst C (v := 1) (by decide) dX6_corrected_22 ?_
      refine r_goto C dX6_corrected_23 ?_
      exact j27 ((1 : Int32)) _ _ _ P (lv_sub hl [0, 1, 2] rfl) hf
theorem ctX6_corrected (l : Launch) (G : Gd) (o : OM) (v1 : Int32) (v2 : Int32) (v3 : Int32)  {r : Int32} {o9 : OM} (hf : F_X6_corrected o v1 v2 v3 = some (r, o9)) : Ct l yX6_corrected cX6_corrected 5 (some .int) rmX6_corrected G [.ref (rA G 19 0), .int v1, .int v2, .int v3] o (some (.int r)) o9 := ct_of (by decide +kernel) (Nat.le_of_ble_eq_true rfl) (fun p e s m below meth c ls C P hl => wX6_corrected C  P hl hf)
theorem dX6_widest_0 : Dc cX6_widest 0 (.iconst 0) 1 1 := ⟨by decide +kernel, rfl⟩
theorem dX6_widest_1 : Dc cX6_widest 1 (.istore_n 2) 1 2 := ⟨by decide +kernel, rfl⟩
theorem dX6_widest_2 : Dc cX6_widest 2 (.iconst 1) 1 3 := ⟨by decide +kernel, rfl⟩
theorem dX6_widest_3 : Dc cX6_widest 3 (.istore_n 3) 1 4 := ⟨by decide +kernel, rfl⟩
theorem dX6_widest_4 : Dc cX6_widest 4 (.iload_n 3) 1 5 := ⟨by decide +kernel, rfl⟩
theorem dX6_widest_5 : Dc cX6_widest 5 (.aload_n 0) 1 6 := ⟨by decide +kernel, rfl⟩
theorem dX6_widest_6 : Dc cX6_widest 6 (.iload_n 1) 1 7 := ⟨by decide +kernel, rfl⟩
theorem dX6_widest_7 : Dc cX6_widest 7 (.bipush 7) 2 9 := ⟨by decide +kernel, rfl⟩
theorem dX6_widest_9 : Dc cX6_widest 9 (.invokevirtual 37) 3 12 := ⟨by decide +kernel, rfl⟩
theorem dX6_widest_12 : Dj cX6_widest 12 (.if_icmp .ge 51) 3 15 (51) 63 := ⟨by decide +kernel, rfl, by decide⟩
theorem dX6_widest_15 : Dc cX6_widest 15 (.aload_n 0) 1 16 := ⟨by decide +kernel, rfl⟩
theorem dX6_widest_16 : Dc cX6_widest 16 (.iload_n 1) 1 17 := ⟨by decide +kernel, rfl⟩
theorem dX6_widest_17 : Dc cX6_widest 17 (.aload_n 0) 1 18 := ⟨by decide +kernel, rfl⟩
theorem dX6_widest_18 : Dc cX6_widest 18 (.iload_n 1) 1 19 := ⟨by decide +kernel, rfl⟩
theorem dX6_widest_19 : Dc cX6_widest 19 (.iload_n 3) 1 20 := ⟨by decide +kernel, rfl⟩
theorem dX6_widest_20 : Dc cX6_widest 20 (.invokevirtual 64) 3 23 := ⟨by decide +kernel, rfl⟩
theorem dX6_widest_23 : Dc cX6_widest 23 (.iconst 1) 1 24 := ⟨by decide +kernel, rfl⟩
theorem dX6_widest_24 : Dc cX6_widest 24 (.invokevirtual 43) 3 27 := ⟨by decide +kernel, rfl⟩
theorem dX6_widest_27 : Dc cX6_widest 27 (.aload_n 0) 1 28 := ⟨by decide +kernel, rfl⟩
theorem dX6_widest_28 : Dc cX6_widest 28 (.iload_n 1) 1 29 := ⟨by decide +kernel, rfl⟩
theorem dX6_widest_29 : Dc cX6_widest 29 (.aload_n 0) 1 30 := ⟨by decide +kernel, rfl⟩
theorem dX6_widest_30 : Dc cX6_widest 30 (.iload_n 1) 1 31 := ⟨by decide +kernel, rfl⟩
theorem dX6_widest_31 : Dc cX6_widest 31 (.iload_n 3) 1 32 := ⟨by decide +kernel, rfl⟩
theorem dX6_widest_32 : Dc cX6_widest 32 (.iconst 1) 1 33 := ⟨by decide +kernel, rfl⟩
theorem dX6_widest_33 : Dc cX6_widest 33 (.isub) 1 34 := ⟨by decide +kernel, rfl⟩
theorem dX6_widest_34 : Dc cX6_widest 34 (.invokevirtual 64) 3 37 := ⟨by decide +kernel, rfl⟩
theorem dX6_widest_37 : Dc cX6_widest 37 (.iconst 1) 1 38 := ⟨by decide +kernel, rfl⟩
theorem dX6_widest_38 : Dc cX6_widest 38 (.invokevirtual 43) 3 41 := ⟨by decide +kernel, rfl⟩
theorem dX6_widest_41 : Dc cX6_widest 41 (.isub) 1 42 := ⟨by decide +kernel, rfl⟩
theorem dX6_widest_42 : Dc cX6_widest 42 (.istore 4) 2 44 := ⟨by decide +kernel, rfl⟩
theorem dX6_widest_44 : Dc cX6_widest 44 (.iload 4) 2 46 := ⟨by decide +kernel, rfl⟩
theorem dX6_widest_46 : Dc cX6_widest 46 (.iload_n 2) 1 47 := ⟨by decide +kernel, rfl⟩
theorem dX6_widest_47 : Dj cX6_widest 47 (.if_icmp .le 8) 3 50 (8) 55 := ⟨by decide +kernel, rfl, by decide⟩
theorem dX6_widest_50 : Dc cX6_widest 50 (.iload 4) 2 52 := ⟨by decide +kernel, rfl⟩
theorem dX6_widest_52 : Dj cX6_widest 52 (.goto 4) 3 55 (4) 56 := ⟨by decide +kernel, rfl, by decide⟩
theorem dX6_widest_55 : Dc cX6_widest 55 (.iload_n 2) 1 56 := ⟨by decide +kernel, rfl⟩
theorem dX6_widest_56 : Dc cX6_widest 56 (.istore_n 2) 1 57 := ⟨by decide +kernel, rfl⟩
theorem dX6_widest_57 : Dc cX6_widest 57 (.iinc 3 1) 3 60 := ⟨by decide +kernel, rfl⟩
theorem dX6_widest_60 : Dj cX6_widest 60 (.goto (-56)) 3 63 (-56) 4 := ⟨by decide +kernel, rfl, by decide⟩
theorem dX6_widest_63 : Dc cX6_widest 63 (.iload_n 2) 1 64 := ⟨by decide +kernel, rfl⟩
theorem dX6_widest_64 : Dc cX6_widest 64 (.ireturn) 1 65 := ⟨by decide +kernel, rfl⟩
def LX6_widest_4 (k63 : Int32 → Option Int32) (o : OM) (v1 : Int32) : Nat → Int32 → Int32 → Option Int32
  | 0 => fun _ _ => none
  | n + 1 => fun v2_2 v3_3 => bq (F_X6_get o v1 ((7 : Int32))) (fun r_4 => if r_4 ≤ v3_3 then (k63 v2_2) else (bq (F_X6_ranked o v1 v3_3) (fun r_5 => bq (F_X6_pointOf o v1 r_5 ((1 : Int32))) (fun r_6 => bq (F_X6_ranked o v1 (v3_3 - ((1 : Int32)))) (fun r_7 => bq (F_X6_pointOf o v1 r_7 ((1 : Int32))) (fun r_8 => bd (r_6 - r_8) (fun v4_9 : Int32 => bd (fun (s_10 : Int32) => bd (v3_3 + (1 : Int32)) (fun v3_11 : Int32 => (LX6_widest_4 k63 o v1 n) s_10 v3_11)) (fun k56 => if v4_9 ≤ v2_2 then (k56 v2_2) else (k56 v4_9)))))))))
def F_X6_widest (o : OM) (v1 : Int32) : Option Int32 := bd (fun (v2_1 : Int32) => some v2_1) (fun k63 => LX6_widest_4 k63 o v1 FU ((0 : Int32)) ((1 : Int32)))
abbrev rmX6_widest : Room := { frames := 3, cells := 0, slots := 0, locals := 70 }
set_option maxHeartbeats 4000000 in
set_option maxRecDepth 100000 in
theorem lX6_widest_4 {G : Gd} {p : Program} {l : Launch} {e : Env} {s : State} {m : MethodId} {args : Array Value} {below : List Frame} {meth : Method} {c : Code} {r : Int32} {o : OM} {v1 : Int32} (C : Cx G RX6 cX6_widest 5 (some .int) p s m args meth c)  {k63 : Int32 → Option Int32} (j63 : ∀ (v2_1 : Int32) H1 L1 ls, Hp G o s H1 L1 → lv_has ls 5 [(2, .int v2_1)] → k63 v2_1 = some r → W p l e rmX6_widest s m args below meth c H1 L1 0 0 (Qm G (some (.int r)) o rmX6_widest below args s) (F0 m 63 ls [])) : ∀ (n : Nat) (v2_2 : Int32) (v3_3 : Int32) H1 L1 ls, Hp G o s H1 L1 → lv_has ls 5 [(0, .ref (rA G 19 0)), (1, .int v1), (2, .int v2_2), (3, .int v3_3)] → LX6_widest_4 k63 o v1 n v2_2 v3_3 = some r → W p l e rmX6_widest s m args below meth c H1 L1 0 0 (Qm G (some (.int r)) o rmX6_widest below args s) (F0 m 4 ls []) := by
  intro n
  induction n with
  | zero =>
    intro v2_2 v3_3 H1 L1 ls P hl hf
    exact nomatch hf
  | succ n ih =>
    intro v2_2 v3_3 H1 L1 ls P hl hf
    rw [LX6_widest_4.eq_2] at hf
    refine r_iload_n C hl 3 rfl rfl dX6_widest_4 ?_
    refine r_aload_n C hl 0 rfl rfl dX6_widest_5 ?_
    refine r_iload_n C hl 1 rfl rfl dX6_widest_6 ?_
    refine r_bipush C (v := 7) (by decide) dX6_widest_7 ?_
    refine r_qVi C P cf_X6_37 (rm := rmX6_get) 19 0 (fun _ _ => ⟨_, rfl⟩) rfl rfl rfl [.int v1, .int ((7 : Int32))] [.int v3_3] hf (fun _ h => ctX6_get l G o v1 ((7 : Int32)) h) ⟨rfl, rfl⟩ ⟨Nat.le_of_ble_eq_true rfl, Nat.le_of_ble_eq_true rfl⟩ ⟨Nat.le_of_ble_eq_true rfl, Nat.le_of_ble_eq_true rfl⟩ rfl rfl hl.1 (Nat.le_of_ble_eq_true rfl) dX6_widest_9 (fun r_4 H1 L1 P hf => ?_)
    refine r_icmp_ge C dX6_widest_12 hf (fun hf => ?_) (fun hf => ?_)
    · exact j63 v2_2 _ _ _ P (lv_sub hl [2] rfl) hf
    · refine r_aload_n C hl 0 rfl rfl dX6_widest_15 ?_
      refine r_iload_n C hl 1 rfl rfl dX6_widest_16 ?_
      refine r_aload_n C hl 0 rfl rfl dX6_widest_17 ?_
      refine r_iload_n C hl 1 rfl rfl dX6_widest_18 ?_
      refine r_iload_n C hl 3 rfl rfl dX6_widest_19 ?_
      refine r_qVi C P cf_X6_64 (rm := rmX6_ranked) 19 0 (fun _ _ => ⟨_, rfl⟩) rfl rfl rfl [.int v1, .int v3_3] [.int v1, .ref (rA G 19 0)] hf (fun _ h => ctX6_ranked l G o v1 v3_3 h) ⟨rfl, rfl⟩ ⟨Nat.le_of_ble_eq_true rfl, Nat.le_of_ble_eq_true rfl⟩ ⟨Nat.le_of_ble_eq_true rfl, Nat.le_of_ble_eq_true rfl⟩ rfl rfl hl.1 (Nat.le_of_ble_eq_true rfl) dX6_widest_20 (fun r_5 H1 L1 P hf => ?_)
      refine r_iconst C (v := 1) (by decide) dX6_widest_23 ?_
      refine r_qVi C P cf_X6_43 (rm := rmX6_pointOf) 19 0 (fun _ _ => ⟨_, rfl⟩) rfl rfl rfl [.int v1, .int r_5, .int ((1 : Int32))] [] hf (fun _ h => ctX6_pointOf l G o v1 r_5 ((1 : Int32)) h) ⟨rfl, rfl⟩ ⟨Nat.le_of_ble_eq_true rfl, Nat.le_of_ble_eq_true rfl⟩ ⟨Nat.le_of_ble_eq_true rfl, Nat.le_of_ble_eq_true rfl⟩ rfl rfl hl.1 (Nat.le_of_ble_eq_true rfl) dX6_widest_24 (fun r_6 H1 L1 P hf => ?_)
      refine r_aload_n C hl 0 rfl rfl dX6_widest_27 ?_
      refine r_iload_n C hl 1 rfl rfl dX6_widest_28 ?_
      refine r_aload_n C hl 0 rfl rfl dX6_widest_29 ?_
      refine r_iload_n C hl 1 rfl rfl dX6_widest_30 ?_
      refine r_iload_n C hl 3 rfl rfl dX6_widest_31 ?_
      refine r_iconst C (v := 1) (by decide) dX6_widest_32 ?_
      refine r_isub C dX6_widest_33 ?_
      refine r_qVi C P cf_X6_64 (rm := rmX6_ranked) 19 0 (fun _ _ => ⟨_, rfl⟩) rfl rfl rfl [.int v1, .int (v3_3 - ((1 : Int32)))] [.int v1, .ref (rA G 19 0), .int r_6] hf (fun _ h => ctX6_ranked l G o v1 (v3_3 - ((1 : Int32))) h) ⟨rfl, rfl⟩ ⟨Nat.le_of_ble_eq_true rfl, Nat.le_of_ble_eq_true rfl⟩ ⟨Nat.le_of_ble_eq_true rfl, Nat.le_of_ble_eq_true rfl⟩ rfl rfl hl.1 (Nat.le_of_ble_eq_true rfl) dX6_widest_34 (fun r_7 H1 L1 P hf => ?_)
      refine r_iconst C (v := 1) (by decide) dX6_widest_37 ?_
      refine r_qVi C P cf_X6_43 (rm := rmX6_pointOf) 19 0 (fun _ _ => ⟨_, rfl⟩) rfl rfl rfl [.int v1, .int r_7, .int ((1 : Int32))] [.int r_6] hf (fun _ h => ctX6_pointOf l G o v1 r_7 ((1 : Int32)) h) ⟨rfl, rfl⟩ ⟨Nat.le_of_ble_eq_true rfl, Nat.le_of_ble_eq_true rfl⟩ ⟨Nat.le_of_ble_eq_true rfl, Nat.le_of_ble_eq_true rfl⟩ rfl rfl hl.1 (Nat.le_of_ble_eq_true rfl) dX6_widest_38 (fun r_8 H1 L1 P hf => ?_)
      refine r_isub C dX6_widest_41 ?_
      refine r_bdi hf (fun v4_9 hf => ?_)
      refine r_istore C [(4, .int v4_9), (0, .ref (rA G 19 0)), (1, .int v1), (2, .int v2_2), (3, .int v3_3)] hl (by decide) rfl dX6_widest_42 (fun ls hl => ?_)
      refine r_iload C hl 0 rfl dX6_widest_44 ?_
      refine r_iload_n C hl 3 rfl rfl dX6_widest_46 ?_
      refine r_jn (fun k56 : Int32 → Option Int32 => ∀ (s_10 : Int32) H1 L1 ls, Hp G o s H1 L1 → lv_has ls 5 [(0, .ref (rA G 19 0)), (1, .int v1), (3, .int v3_3)] → k56 s_10 = some r → W p l e rmX6_widest s m args below meth c H1 L1 0 0 (Qm G (some (.int r)) o rmX6_widest below args s) (F0 m 56 ls [.int s_10])) hf ?_ (fun k56 j56 hf => ?_)
      · intro s_10 H1 L1 ls  P hl hf
        refine r_istore_n C [(2, .int s_10), (0, .ref (rA G 19 0)), (1, .int v1), (3, .int v3_3)] hl (by decide) rfl rfl dX6_widest_56 (fun ls hl => ?_)
        refine r_iinc C (fun v3_11 => [(3, .int v3_11), (2, .int s_10), (0, .ref (rA G 19 0)), (1, .int v1)]) (w := 1) 3 hl rfl (by decide) (by decide) (fun _ => rfl) dX6_widest_57 hf (fun v3_11 ls hl hf => ?_)
        refine r_goto C dX6_widest_60 ?_
        exact ih s_10 v3_11 _ _ _ P (lv_sub hl [2, 3, 1, 0] rfl) hf
      refine r_icmp_le C dX6_widest_47 hf (fun hf => ?_) (fun hf => ?_)
      · refine r_iload_n C hl 3 rfl rfl dX6_widest_55 ?_
        exact j56 v2_2 _ _ _ P (lv_sub hl [1, 2, 4] rfl) hf
      · refine r_iload C hl 0 rfl dX6_widest_50 ?_
        refine r_goto C dX6_widest_52 ?_
        exact j56 v4_9 _ _ _ P (lv_sub hl [1, 2, 4] rfl) hf
set_option maxHeartbeats 4000000 in
set_option maxRecDepth 100000 in
theorem wX6_widest {G : Gd} {p : Program} {l : Launch} {e : Env} {s : State} {m : MethodId} {args : Array Value} {below : List Frame} {meth : Method} {c : Code} {o : OM} {H : Heap} {L0 : List Loc} {ls : Array Slot} {r : Int32} {v1 : Int32} (C : Cx G RX6 cX6_widest 5 (some .int) p s m args meth c)  (P : Hp G o s H L0) (hl : lv_has ls 5 [(0, .ref (rA G 19 0)), (1, .int v1)]) (hf : F_X6_widest o v1 = some r) : W p l e rmX6_widest s m args below meth c H L0 0 0 (Qm G (some (.int r)) o rmX6_widest below args s) (F0 m 0 ls []) := by
  unfold F_X6_widest at hf
  refine r_iconst C (v := 0) (by decide) dX6_widest_0 ?_
  refine r_istore_n C [(2, .int ((0 : Int32))), (0, .ref (rA G 19 0)), (1, .int v1)] hl (by decide) rfl rfl dX6_widest_1 (fun ls hl => ?_)
  refine r_iconst C (v := 1) (by decide) dX6_widest_2 ?_
  refine r_istore_n C [(3, .int ((1 : Int32))), (2, .int ((0 : Int32))), (0, .ref (rA G 19 0)), (1, .int v1)] hl (by decide) rfl rfl dX6_widest_3 (fun ls hl => ?_)
  refine r_jn (fun k63 : Int32 → Option Int32 => ∀ (v2_1 : Int32) H1 L1 ls, Hp G o s H1 L1 → lv_has ls 5 [(2, .int v2_1)] → k63 v2_1 = some r → W p l e rmX6_widest s m args below meth c H1 L1 0 0 (Qm G (some (.int r)) o rmX6_widest below args s) (F0 m 63 ls [])) hf ?_ (fun k63 j63 hf => ?_)
  · intro v2_1 H1 L1 ls  P hl hf
    refine r_iload_n C hl 0 rfl rfl dX6_widest_63 ?_
    exact q_iret C P (rm := rmX6_widest) ⟨rfl, rfl⟩ dX6_widest_64 hf
  exact lX6_widest_4 C  j63 FU ((0 : Int32)) ((1 : Int32)) _ _ _ P (lv_sub hl [2, 3, 1, 0] rfl) hf
theorem ctX6_widest (l : Launch) (G : Gd) (o : OM) (v1 : Int32)  {r : Int32} (hf : F_X6_widest o v1 = some r) : Ct l yX6_widest cX6_widest 5 (some .int) rmX6_widest G [.ref (rA G 19 0), .int v1] o (some (.int r)) o := ct_of (by decide +kernel) (Nat.le_of_ble_eq_true rfl) (fun p e s m below meth c ls C P hl => wX6_widest C  P hl hf)
theorem cf_X6_182 : CallF false RX6 182 yX6_depth cX6_depth 4 (some .int) 1 := ⟨wd_1156, (by rw [if_neg (by decide)]; exact ⟨wd_1158, wd_53⟩), wd_71, wd_1159, by decide, by decide +kernel⟩
theorem cf_X6_185 : CallF false RX6 185 yX6_widest cX6_widest 5 (some .int) 1 := ⟨wd_1166, (by rw [if_neg (by decide)]; exact ⟨wd_1168, wd_55⟩), wd_71, wd_1169, by decide, by decide +kernel⟩
theorem dX6_ofGlass_0 : Dc cX6_ofGlass 0 (.iload_n 2) 1 1 := ⟨by decide +kernel, rfl⟩
theorem dX6_ofGlass_1 : Dc cX6_ofGlass 1 (.tableswitch 97 0 7 #[47, 47, 47, 56, 64, 70, 77, 91]) 47 48 := ⟨by decide +kernel, rfl⟩
theorem dX6_ofGlass_48 : Dc cX6_ofGlass 48 (.aload_n 0) 1 49 := ⟨by decide +kernel, rfl⟩
theorem dX6_ofGlass_49 : Dc cX6_ofGlass 49 (.iload_n 1) 1 50 := ⟨by decide +kernel, rfl⟩
theorem dX6_ofGlass_50 : Dc cX6_ofGlass 50 (.iconst 2) 1 51 := ⟨by decide +kernel, rfl⟩
theorem dX6_ofGlass_51 : Dc cX6_ofGlass 51 (.iload_n 2) 1 52 := ⟨by decide +kernel, rfl⟩
theorem dX6_ofGlass_52 : Dc cX6_ofGlass 52 (.iadd) 1 53 := ⟨by decide +kernel, rfl⟩
theorem dX6_ofGlass_53 : Dc cX6_ofGlass 53 (.invokevirtual 37) 3 56 := ⟨by decide +kernel, rfl⟩
theorem dX6_ofGlass_56 : Dc cX6_ofGlass 56 (.ireturn) 1 57 := ⟨by decide +kernel, rfl⟩
theorem dX6_ofGlass_57 : Dc cX6_ofGlass 57 (.aload_n 0) 1 58 := ⟨by decide +kernel, rfl⟩
theorem dX6_ofGlass_58 : Dc cX6_ofGlass 58 (.iload_n 1) 1 59 := ⟨by decide +kernel, rfl⟩
theorem dX6_ofGlass_59 : Dc cX6_ofGlass 59 (.bipush 7) 2 61 := ⟨by decide +kernel, rfl⟩
theorem dX6_ofGlass_61 : Dc cX6_ofGlass 61 (.invokevirtual 37) 3 64 := ⟨by decide +kernel, rfl⟩
theorem dX6_ofGlass_64 : Dc cX6_ofGlass 64 (.ireturn) 1 65 := ⟨by decide +kernel, rfl⟩
theorem dX6_ofGlass_65 : Dc cX6_ofGlass 65 (.aload_n 0) 1 66 := ⟨by decide +kernel, rfl⟩
theorem dX6_ofGlass_66 : Dc cX6_ofGlass 66 (.iload_n 1) 1 67 := ⟨by decide +kernel, rfl⟩
theorem dX6_ofGlass_67 : Dc cX6_ofGlass 67 (.invokevirtual 182) 3 70 := ⟨by decide +kernel, rfl⟩
theorem dX6_ofGlass_70 : Dc cX6_ofGlass 70 (.ireturn) 1 71 := ⟨by decide +kernel, rfl⟩
theorem dX6_ofGlass_71 : Dc cX6_ofGlass 71 (.aload_n 0) 1 72 := ⟨by decide +kernel, rfl⟩
theorem dX6_ofGlass_72 : Dc cX6_ofGlass 72 (.iload_n 1) 1 73 := ⟨by decide +kernel, rfl⟩
theorem dX6_ofGlass_73 : Dc cX6_ofGlass 73 (.iconst 5) 1 74 := ⟨by decide +kernel, rfl⟩
theorem dX6_ofGlass_74 : Dc cX6_ofGlass 74 (.invokevirtual 37) 3 77 := ⟨by decide +kernel, rfl⟩
theorem dX6_ofGlass_77 : Dc cX6_ofGlass 77 (.ireturn) 1 78 := ⟨by decide +kernel, rfl⟩
theorem dX6_ofGlass_78 : Dc cX6_ofGlass 78 (.aload_n 0) 1 79 := ⟨by decide +kernel, rfl⟩
theorem dX6_ofGlass_79 : Dc cX6_ofGlass 79 (.iload_n 1) 1 80 := ⟨by decide +kernel, rfl⟩
theorem dX6_ofGlass_80 : Dc cX6_ofGlass 80 (.invokevirtual 74) 3 83 := ⟨by decide +kernel, rfl⟩
theorem dX6_ofGlass_83 : Dj cX6_ofGlass 83 (.ifCond .eq 7) 3 86 (7) 90 := ⟨by decide +kernel, rfl, by decide⟩
theorem dX6_ofGlass_86 : Dc cX6_ofGlass 86 (.iconst 1) 1 87 := ⟨by decide +kernel, rfl⟩
theorem dX6_ofGlass_87 : Dj cX6_ofGlass 87 (.goto 4) 3 90 (4) 91 := ⟨by decide +kernel, rfl, by decide⟩
theorem dX6_ofGlass_90 : Dc cX6_ofGlass 90 (.iconst 0) 1 91 := ⟨by decide +kernel, rfl⟩
theorem dX6_ofGlass_91 : Dc cX6_ofGlass 91 (.ireturn) 1 92 := ⟨by decide +kernel, rfl⟩
theorem dX6_ofGlass_92 : Dc cX6_ofGlass 92 (.aload_n 0) 1 93 := ⟨by decide +kernel, rfl⟩
theorem dX6_ofGlass_93 : Dc cX6_ofGlass 93 (.iload_n 1) 1 94 := ⟨by decide +kernel, rfl⟩
theorem dX6_ofGlass_94 : Dc cX6_ofGlass 94 (.invokevirtual 121) 3 97 := ⟨by decide +kernel, rfl⟩
theorem dX6_ofGlass_97 : Dc cX6_ofGlass 97 (.ireturn) 1 98 := ⟨by decide +kernel, rfl⟩
theorem dX6_ofGlass_98 : Dc cX6_ofGlass 98 (.aload_n 0) 1 99 := ⟨by decide +kernel, rfl⟩
theorem dX6_ofGlass_99 : Dc cX6_ofGlass 99 (.iload_n 1) 1 100 := ⟨by decide +kernel, rfl⟩
theorem dX6_ofGlass_100 : Dc cX6_ofGlass 100 (.invokevirtual 185) 3 103 := ⟨by decide +kernel, rfl⟩
theorem dX6_ofGlass_103 : Dc cX6_ofGlass 103 (.ireturn) 1 104 := ⟨by decide +kernel, rfl⟩
def F_X6_ofGlass (o : OM) (v1 : Int32) (v2 : Int32) : Option Int32 := if v2 = 0 then (bq (F_X6_get o v1 (((2 : Int32)) + v2)) (fun r_1 => some r_1)) else (if v2 = 1 then (bq (F_X6_get o v1 (((2 : Int32)) + v2)) (fun r_2 => some r_2)) else (if v2 = 2 then (bq (F_X6_get o v1 (((2 : Int32)) + v2)) (fun r_3 => some r_3)) else (if v2 = 3 then (bq (F_X6_get o v1 ((7 : Int32))) (fun r_4 => some r_4)) else (if v2 = 4 then (bq (F_X6_depth o v1) (fun r_5 => some r_5)) else (if v2 = 5 then (bq (F_X6_get o v1 ((5 : Int32))) (fun r_6 => some r_6)) else (if v2 = 6 then (bq (F_X6_isValid o v1) (fun r_7 => bd (fun (s_8 : Int32) => some s_8) (fun k91 => if r_7 = 0 then (k91 ((0 : Int32))) else (k91 ((1 : Int32)))))) else (if v2 = 7 then (bq (F_X6_refusal o v1) (fun r_9 => some r_9)) else (bq (F_X6_widest o v1) (fun r_10 => some r_10)))))))))
abbrev rmX6_ofGlass : Room := { frames := 7, cells := 0, slots := 0, locals := 168 }
set_option maxHeartbeats 4000000 in
set_option maxRecDepth 100000 in
theorem wX6_ofGlass {G : Gd} {p : Program} {l : Launch} {e : Env} {s : State} {m : MethodId} {args : Array Value} {below : List Frame} {meth : Method} {c : Code} {o : OM} {H : Heap} {L0 : List Loc} {ls : Array Slot} {r : Int32} {v1 : Int32} {v2 : Int32} (C : Cx G RX6 cX6_ofGlass 3 (some .int) p s m args meth c)  (P : Hp G o s H L0) (hl : lv_has ls 3 [(0, .ref (rA G 19 0)), (1, .int v1), (2, .int v2)]) (hf : F_X6_ofGlass o v1 v2 = some r) : W p l e rmX6_ofGlass s m args below meth c H L0 0 0 (Qm G (some (.int r)) o rmX6_ofGlass below args s) (F0 m 0 ls []) := by
  unfold F_X6_ofGlass at hf
  refine r_iload_n C hl 2 rfl rfl dX6_ofGlass_0 ?_
  refine r_ite hf (fun hc0 hf => ?_) (fun hc0 hf => ?_)
  · refine lv_tableIn C.1 C.2.1 (off := 47) (tgt := 48) dX6_ofGlass_1.1 (by rw [hc0] <;> decide) (by rw [hc0] <;> decide) (by rw [hc0] <;> decide) rfl ?_
    refine r_aload_n C hl 0 rfl rfl dX6_ofGlass_48 ?_
    refine r_iload_n C hl 1 rfl rfl dX6_ofGlass_49 ?_
    refine r_iconst C (v := 2) (by decide) dX6_ofGlass_50 ?_
    refine r_iload_n C hl 2 rfl rfl dX6_ofGlass_51 ?_
    refine r_iadd2 C dX6_ofGlass_52 ?_
    refine r_qVi C P cf_X6_37 (rm := rmX6_get) 19 0 (fun _ _ => ⟨_, rfl⟩) rfl rfl rfl [.int v1, .int (((2 : Int32)) + v2)] [] hf (fun _ h => ctX6_get l G o v1 (((2 : Int32)) + v2) h) ⟨rfl, rfl⟩ ⟨Nat.le_of_ble_eq_true rfl, Nat.le_of_ble_eq_true rfl⟩ ⟨Nat.le_of_ble_eq_true rfl, Nat.le_of_ble_eq_true rfl⟩ rfl rfl hl.1 (Nat.le_of_ble_eq_true rfl) dX6_ofGlass_53 (fun r_1 H1 L1 P hf => ?_)
    exact q_iret C P (rm := rmX6_ofGlass) ⟨rfl, rfl⟩ dX6_ofGlass_56 hf
  · refine r_ite hf (fun hc1 hf => ?_) (fun hc1 hf => ?_)
    · refine lv_tableIn C.1 C.2.1 (off := 47) (tgt := 48) dX6_ofGlass_1.1 (by rw [hc1] <;> decide) (by rw [hc1] <;> decide) (by rw [hc1] <;> decide) rfl ?_
      refine r_aload_n C hl 0 rfl rfl dX6_ofGlass_48 ?_
      refine r_iload_n C hl 1 rfl rfl dX6_ofGlass_49 ?_
      refine r_iconst C (v := 2) (by decide) dX6_ofGlass_50 ?_
      refine r_iload_n C hl 2 rfl rfl dX6_ofGlass_51 ?_
      refine r_iadd2 C dX6_ofGlass_52 ?_
      refine r_qVi C P cf_X6_37 (rm := rmX6_get) 19 0 (fun _ _ => ⟨_, rfl⟩) rfl rfl rfl [.int v1, .int (((2 : Int32)) + v2)] [] hf (fun _ h => ctX6_get l G o v1 (((2 : Int32)) + v2) h) ⟨rfl, rfl⟩ ⟨Nat.le_of_ble_eq_true rfl, Nat.le_of_ble_eq_true rfl⟩ ⟨Nat.le_of_ble_eq_true rfl, Nat.le_of_ble_eq_true rfl⟩ rfl rfl hl.1 (Nat.le_of_ble_eq_true rfl) dX6_ofGlass_53 (fun r_2 H1 L1 P hf => ?_)
      exact q_iret C P (rm := rmX6_ofGlass) ⟨rfl, rfl⟩ dX6_ofGlass_56 hf
    · refine r_ite hf (fun hc2 hf => ?_) (fun hc2 hf => ?_)
      · refine lv_tableIn C.1 C.2.1 (off := 47) (tgt := 48) dX6_ofGlass_1.1 (by rw [hc2] <;> decide) (by rw [hc2] <;> decide) (by rw [hc2] <;> decide) rfl ?_
        refine r_aload_n C hl 0 rfl rfl dX6_ofGlass_48 ?_
        refine r_iload_n C hl 1 rfl rfl dX6_ofGlass_49 ?_
        refine r_iconst C (v := 2) (by decide) dX6_ofGlass_50 ?_
        refine r_iload_n C hl 2 rfl rfl dX6_ofGlass_51 ?_
        refine r_iadd2 C dX6_ofGlass_52 ?_
        refine r_qVi C P cf_X6_37 (rm := rmX6_get) 19 0 (fun _ _ => ⟨_, rfl⟩) rfl rfl rfl [.int v1, .int (((2 : Int32)) + v2)] [] hf (fun _ h => ctX6_get l G o v1 (((2 : Int32)) + v2) h) ⟨rfl, rfl⟩ ⟨Nat.le_of_ble_eq_true rfl, Nat.le_of_ble_eq_true rfl⟩ ⟨Nat.le_of_ble_eq_true rfl, Nat.le_of_ble_eq_true rfl⟩ rfl rfl hl.1 (Nat.le_of_ble_eq_true rfl) dX6_ofGlass_53 (fun r_3 H1 L1 P hf => ?_)
        exact q_iret C P (rm := rmX6_ofGlass) ⟨rfl, rfl⟩ dX6_ofGlass_56 hf
      · refine r_ite hf (fun hc3 hf => ?_) (fun hc3 hf => ?_)
        · refine lv_tableIn C.1 C.2.1 (off := 56) (tgt := 57) dX6_ofGlass_1.1 (by rw [hc3] <;> decide) (by rw [hc3] <;> decide) (by rw [hc3] <;> decide) rfl ?_
          refine r_aload_n C hl 0 rfl rfl dX6_ofGlass_57 ?_
          refine r_iload_n C hl 1 rfl rfl dX6_ofGlass_58 ?_
          refine r_bipush C (v := 7) (by decide) dX6_ofGlass_59 ?_
          refine r_qVi C P cf_X6_37 (rm := rmX6_get) 19 0 (fun _ _ => ⟨_, rfl⟩) rfl rfl rfl [.int v1, .int ((7 : Int32))] [] hf (fun _ h => ctX6_get l G o v1 ((7 : Int32)) h) ⟨rfl, rfl⟩ ⟨Nat.le_of_ble_eq_true rfl, Nat.le_of_ble_eq_true rfl⟩ ⟨Nat.le_of_ble_eq_true rfl, Nat.le_of_ble_eq_true rfl⟩ rfl rfl hl.1 (Nat.le_of_ble_eq_true rfl) dX6_ofGlass_61 (fun r_4 H1 L1 P hf => ?_)
          exact q_iret C P (rm := rmX6_ofGlass) ⟨rfl, rfl⟩ dX6_ofGlass_64 hf
        · refine r_ite hf (fun hc4 hf => ?_) (fun hc4 hf => ?_)
          · refine lv_tableIn C.1 C.2.1 (off := 64) (tgt := 65) dX6_ofGlass_1.1 (by rw [hc4] <;> decide) (by rw [hc4] <;> decide) (by rw [hc4] <;> decide) rfl ?_
            refine r_aload_n C hl 0 rfl rfl dX6_ofGlass_65 ?_
            refine r_iload_n C hl 1 rfl rfl dX6_ofGlass_66 ?_
            refine r_qVi C P cf_X6_182 (rm := rmX6_depth) 19 0 (fun _ _ => ⟨_, rfl⟩) rfl rfl rfl [.int v1] [] hf (fun _ h => ctX6_depth l G o v1 h) ⟨rfl, rfl⟩ ⟨Nat.le_of_ble_eq_true rfl, Nat.le_of_ble_eq_true rfl⟩ ⟨Nat.le_of_ble_eq_true rfl, Nat.le_of_ble_eq_true rfl⟩ rfl rfl hl.1 (Nat.le_of_ble_eq_true rfl) dX6_ofGlass_67 (fun r_5 H1 L1 P hf => ?_)
            exact q_iret C P (rm := rmX6_ofGlass) ⟨rfl, rfl⟩ dX6_ofGlass_70 hf
          · refine r_ite hf (fun hc5 hf => ?_) (fun hc5 hf => ?_)
            · refine lv_tableIn C.1 C.2.1 (off := 70) (tgt := 71) dX6_ofGlass_1.1 (by rw [hc5] <;> decide) (by rw [hc5] <;> decide) (by rw [hc5] <;> decide) rfl ?_
              refine r_aload_n C hl 0 rfl rfl dX6_ofGlass_71 ?_
              refine r_iload_n C hl 1 rfl rfl dX6_ofGlass_72 ?_
              refine r_iconst C (v := 5) (by decide) dX6_ofGlass_73 ?_
              refine r_qVi C P cf_X6_37 (rm := rmX6_get) 19 0 (fun _ _ => ⟨_, rfl⟩) rfl rfl rfl [.int v1, .int ((5 : Int32))] [] hf (fun _ h => ctX6_get l G o v1 ((5 : Int32)) h) ⟨rfl, rfl⟩ ⟨Nat.le_of_ble_eq_true rfl, Nat.le_of_ble_eq_true rfl⟩ ⟨Nat.le_of_ble_eq_true rfl, Nat.le_of_ble_eq_true rfl⟩ rfl rfl hl.1 (Nat.le_of_ble_eq_true rfl) dX6_ofGlass_74 (fun r_6 H1 L1 P hf => ?_)
              exact q_iret C P (rm := rmX6_ofGlass) ⟨rfl, rfl⟩ dX6_ofGlass_77 hf
            · refine r_ite hf (fun hc6 hf => ?_) (fun hc6 hf => ?_)
              · refine lv_tableIn C.1 C.2.1 (off := 77) (tgt := 78) dX6_ofGlass_1.1 (by rw [hc6] <;> decide) (by rw [hc6] <;> decide) (by rw [hc6] <;> decide) rfl ?_
                refine r_aload_n C hl 0 rfl rfl dX6_ofGlass_78 ?_
                refine r_iload_n C hl 1 rfl rfl dX6_ofGlass_79 ?_
                refine r_qVi C P cf_X6_74 (rm := rmX6_isValid) 19 0 (fun _ _ => ⟨_, rfl⟩) rfl rfl rfl [.int v1] [] hf (fun _ h => ctX6_isValid l G o v1 h) ⟨rfl, rfl⟩ ⟨Nat.le_of_ble_eq_true rfl, Nat.le_of_ble_eq_true rfl⟩ ⟨Nat.le_of_ble_eq_true rfl, Nat.le_of_ble_eq_true rfl⟩ rfl rfl hl.1 (Nat.le_of_ble_eq_true rfl) dX6_ofGlass_80 (fun r_7 H1 L1 P hf => ?_)
                refine r_jn (fun k91 : Int32 → Option Int32 => ∀ (s_8 : Int32) H1 L1 ls, Hp G o s H1 L1 → lv_has ls 3 [] → k91 s_8 = some r → W p l e rmX6_ofGlass s m args below meth c H1 L1 0 0 (Qm G (some (.int r)) o rmX6_ofGlass below args s) (F0 m 91 ls [.int s_8])) hf ?_ (fun k91 j91 hf => ?_)
                · intro s_8 H1 L1 ls  P hl hf
                  exact q_iret C P (rm := rmX6_ofGlass) ⟨rfl, rfl⟩ dX6_ofGlass_91 hf
                refine r_if_eq C dX6_ofGlass_83 hf (fun hf => ?_) (fun hf => ?_)
                · refine r_iconst C (v := 0) (by decide) dX6_ofGlass_90 ?_
                  exact j91 ((0 : Int32)) _ _ _ P (lv_sub hl [] rfl) hf
                · refine r_iconst C (v := 1) (by decide) dX6_ofGlass_86 ?_
                  refine r_goto C dX6_ofGlass_87 ?_
                  exact j91 ((1 : Int32)) _ _ _ P (lv_sub hl [] rfl) hf
              · refine r_ite hf (fun hc7 hf => ?_) (fun hc7 hf => ?_)
                · refine lv_tableIn C.1 C.2.1 (off := 91) (tgt := 92) dX6_ofGlass_1.1 (by rw [hc7] <;> decide) (by rw [hc7] <;> decide) (by rw [hc7] <;> decide) rfl ?_
                  refine r_aload_n C hl 0 rfl rfl dX6_ofGlass_92 ?_
                  refine r_iload_n C hl 1 rfl rfl dX6_ofGlass_93 ?_
                  refine r_qVi C P cf_X6_121 (rm := rmX6_refusal) 19 0 (fun _ _ => ⟨_, rfl⟩) rfl rfl rfl [.int v1] [] hf (fun _ h => ctX6_refusal l G o v1 h) ⟨rfl, rfl⟩ ⟨Nat.le_of_ble_eq_true rfl, Nat.le_of_ble_eq_true rfl⟩ ⟨Nat.le_of_ble_eq_true rfl, Nat.le_of_ble_eq_true rfl⟩ rfl rfl hl.1 (Nat.le_of_ble_eq_true rfl) dX6_ofGlass_94 (fun r_9 H1 L1 P hf => ?_)
                  exact q_iret C P (rm := rmX6_ofGlass) ⟨rfl, rfl⟩ dX6_ofGlass_97 hf
                · refine lv_tableOut C.1 C.2.1 (tgt := 98) dX6_ofGlass_1.1 (by have q0 := lv_neT hc0 (a := 0) rfl; have q1 := lv_neT hc1 (a := 1) rfl; have q2 := lv_neT hc2 (a := 2) rfl; have q3 := lv_neT hc3 (a := 3) rfl; have q4 := lv_neT hc4 (a := 4) rfl; have q5 := lv_neT hc5 (a := 5) rfl; have q6 := lv_neT hc6 (a := 6) rfl; have q7 := lv_neT hc7 (a := 7) rfl; omega) rfl ?_
                  refine r_aload_n C hl 0 rfl rfl dX6_ofGlass_98 ?_
                  refine r_iload_n C hl 1 rfl rfl dX6_ofGlass_99 ?_
                  refine r_qVi C P cf_X6_185 (rm := rmX6_widest) 19 0 (fun _ _ => ⟨_, rfl⟩) rfl rfl rfl [.int v1] [] hf (fun _ h => ctX6_widest l G o v1 h) ⟨rfl, rfl⟩ ⟨Nat.le_of_ble_eq_true rfl, Nat.le_of_ble_eq_true rfl⟩ ⟨Nat.le_of_ble_eq_true rfl, Nat.le_of_ble_eq_true rfl⟩ rfl rfl hl.1 (Nat.le_of_ble_eq_true rfl) dX6_ofGlass_100 (fun r_10 H1 L1 P hf => ?_)
                  exact q_iret C P (rm := rmX6_ofGlass) ⟨rfl, rfl⟩ dX6_ofGlass_103 hf
theorem ctX6_ofGlass (l : Launch) (G : Gd) (o : OM) (v1 : Int32) (v2 : Int32)  {r : Int32} (hf : F_X6_ofGlass o v1 v2 = some r) : Ct l yX6_ofGlass cX6_ofGlass 3 (some .int) rmX6_ofGlass G [.ref (rA G 19 0), .int v1, .int v2] o (some (.int r)) o := ct_of (by decide +kernel) (Nat.le_of_ble_eq_true rfl) (fun p e s m below meth c ls C P hl => wX6_ofGlass C  P hl hf)
theorem cf_X6_188 : CallF false RX6 188 yX6_ofGlass cX6_ofGlass 3 (some .int) 2 := ⟨wd_1152, (by rw [if_neg (by decide)]; exact ⟨wd_1154, wd_52⟩), wd_71, wd_1155, by decide, by decide +kernel⟩
theorem dX6_thermometer_0 : Dc cX6_thermometer 0 (.aload_n 0) 1 1 := ⟨by decide +kernel, rfl⟩
theorem dX6_thermometer_1 : Dc cX6_thermometer 1 (.aload_n 0) 1 2 := ⟨by decide +kernel, rfl⟩
theorem dX6_thermometer_2 : Dc cX6_thermometer 2 (.iload_n 1) 1 3 := ⟨by decide +kernel, rfl⟩
theorem dX6_thermometer_3 : Dc cX6_thermometer 3 (.invokevirtual 96) 3 6 := ⟨by decide +kernel, rfl⟩
theorem dX6_thermometer_6 : Dj cX6_thermometer 6 (.ifCond .ne 7) 3 9 (7) 13 := ⟨by decide +kernel, rfl, by decide⟩
theorem dX6_thermometer_9 : Dc cX6_thermometer 9 (.iconst 1) 1 10 := ⟨by decide +kernel, rfl⟩
theorem dX6_thermometer_10 : Dj cX6_thermometer 10 (.goto 18) 3 13 (18) 28 := ⟨by decide +kernel, rfl, by decide⟩
theorem dX6_thermometer_13 : Dc cX6_thermometer 13 (.iload_n 2) 1 14 := ⟨by decide +kernel, rfl⟩
theorem dX6_thermometer_14 : Dc cX6_thermometer 14 (.iconst 0) 1 15 := ⟨by decide +kernel, rfl⟩
theorem dX6_thermometer_15 : Dc cX6_thermometer 15 (.bipush 8) 2 17 := ⟨by decide +kernel, rfl⟩
theorem dX6_thermometer_17 : Dc cX6_thermometer 17 (.invokestatic 26) 3 20 := ⟨by decide +kernel, rfl⟩
theorem dX6_thermometer_20 : Dj cX6_thermometer 20 (.ifCond .eq 7) 3 23 (7) 27 := ⟨by decide +kernel, rfl, by decide⟩
theorem dX6_thermometer_23 : Dc cX6_thermometer 23 (.iconst 0) 1 24 := ⟨by decide +kernel, rfl⟩
theorem dX6_thermometer_24 : Dj cX6_thermometer 24 (.goto 4) 3 27 (4) 28 := ⟨by decide +kernel, rfl, by decide⟩
theorem dX6_thermometer_27 : Dc cX6_thermometer 27 (.iconst 2) 1 28 := ⟨by decide +kernel, rfl⟩
theorem dX6_thermometer_28 : Dc cX6_thermometer 28 (.invokevirtual 87) 3 31 := ⟨by decide +kernel, rfl⟩
theorem dX6_thermometer_31 : Dj cX6_thermometer 31 (.ifCond .eq 12) 3 34 (12) 43 := ⟨by decide +kernel, rfl, by decide⟩
theorem dX6_thermometer_34 : Dc cX6_thermometer 34 (.aload_n 0) 1 35 := ⟨by decide +kernel, rfl⟩
theorem dX6_thermometer_35 : Dc cX6_thermometer 35 (.iload_n 1) 1 36 := ⟨by decide +kernel, rfl⟩
theorem dX6_thermometer_36 : Dc cX6_thermometer 36 (.iload_n 2) 1 37 := ⟨by decide +kernel, rfl⟩
theorem dX6_thermometer_37 : Dc cX6_thermometer 37 (.invokevirtual 188) 3 40 := ⟨by decide +kernel, rfl⟩
theorem dX6_thermometer_40 : Dj cX6_thermometer 40 (.goto 4) 3 43 (4) 44 := ⟨by decide +kernel, rfl, by decide⟩
theorem dX6_thermometer_43 : Dc cX6_thermometer 43 (.iconst 0) 1 44 := ⟨by decide +kernel, rfl⟩
theorem dX6_thermometer_44 : Dc cX6_thermometer 44 (.ireturn) 1 45 := ⟨by decide +kernel, rfl⟩
def F_X6_thermometer (o : OM) (v1 : Int32) (v2 : Int32) : Option (Int32 × OM) := bq (F_X6_isThere o v1) (fun r_1 => bd (fun (s_2 : Int32) => bn (F_X6_holds o s_2) (fun r_3 o_4 => bd (fun (s_5 : Int32) => some (s_5, o_4)) (fun k44 => if r_3 = 0 then (k44 ((0 : Int32))) else (bq (F_X6_ofGlass o_4 v1 v2) (fun r_6 => k44 r_6))))) (fun k28 => if r_1 = 0 then (k28 ((1 : Int32))) else (bq (F_X6_in o v2 ((0 : Int32)) ((8 : Int32))) (fun r_7 => if r_7 = 0 then (k28 ((2 : Int32))) else (k28 ((0 : Int32)))))))
abbrev rmX6_thermometer : Room := { frames := 8, cells := 0, slots := 0, locals := 190 }
set_option maxHeartbeats 4000000 in
set_option maxRecDepth 100000 in
theorem wX6_thermometer {G : Gd} {p : Program} {l : Launch} {e : Env} {s : State} {m : MethodId} {args : Array Value} {below : List Frame} {meth : Method} {c : Code} {o : OM} {H : Heap} {L0 : List Loc} {ls : Array Slot} {r : Int32} {o9 : OM} {v1 : Int32} {v2 : Int32} (C : Cx G RX6 cX6_thermometer 3 (some .int) p s m args meth c)  (P : Hp G o s H L0) (hl : lv_has ls 3 [(0, .ref (rA G 19 0)), (1, .int v1), (2, .int v2)]) (hf : F_X6_thermometer o v1 v2 = some (r, o9)) : W p l e rmX6_thermometer s m args below meth c H L0 0 0 (Qm G (some (.int r)) o9 rmX6_thermometer below args s) (F0 m 0 ls []) := by
  unfold F_X6_thermometer at hf
  refine r_aload_n C hl 0 rfl rfl dX6_thermometer_0 ?_
  refine r_aload_n C hl 0 rfl rfl dX6_thermometer_1 ?_
  refine r_iload_n C hl 1 rfl rfl dX6_thermometer_2 ?_
  refine r_qVi C P cf_X6_96 (rm := rmX6_isThere) 19 0 (fun _ _ => ⟨_, rfl⟩) rfl rfl rfl [.int v1] [.ref (rA G 19 0)] hf (fun _ h => ctX6_isThere l G o v1 h) ⟨rfl, rfl⟩ ⟨Nat.le_of_ble_eq_true rfl, Nat.le_of_ble_eq_true rfl⟩ ⟨Nat.le_of_ble_eq_true rfl, Nat.le_of_ble_eq_true rfl⟩ rfl rfl hl.1 (Nat.le_of_ble_eq_true rfl) dX6_thermometer_3 (fun r_1 H1 L1 P hf => ?_)
  refine r_jn (fun k28 : Int32 → Option (Int32 × OM) => ∀ (s_2 : Int32) H1 L1 ls, Hp G o s H1 L1 → lv_has ls 3 [(0, .ref (rA G 19 0)), (1, .int v1), (2, .int v2)] → k28 s_2 = some (r, o9) → W p l e rmX6_thermometer s m args below meth c H1 L1 0 0 (Qm G (some (.int r)) o9 rmX6_thermometer below args s) (F0 m 28 ls [.int s_2, .ref (rA G 19 0)])) hf ?_ (fun k28 j28 hf => ?_)
  · intro s_2 H1 L1 ls  P hl hf
    refine r_cVi C P cf_X6_87 (rm := rmX6_holds) 19 0 (fun _ _ => ⟨_, rfl⟩) rfl rfl rfl [.int s_2] [] hf (fun _ _ h => ctX6_holds l G o s_2 h) ⟨rfl, rfl⟩ ⟨Nat.le_of_ble_eq_true rfl, Nat.le_of_ble_eq_true rfl⟩ ⟨Nat.le_of_ble_eq_true rfl, Nat.le_of_ble_eq_true rfl⟩ rfl rfl hl.1 (Nat.le_of_ble_eq_true rfl) dX6_thermometer_28 (fun r_3 o_4 H1 L1 P hf => ?_)
    refine r_jn (fun k44 : Int32 → Option (Int32 × OM) => ∀ (s_5 : Int32) H1 L1 ls, Hp G o_4 s H1 L1 → lv_has ls 3 [] → k44 s_5 = some (r, o9) → W p l e rmX6_thermometer s m args below meth c H1 L1 0 0 (Qm G (some (.int r)) o9 rmX6_thermometer below args s) (F0 m 44 ls [.int s_5])) hf ?_ (fun k44 j44 hf => ?_)
    · intro s_5 H1 L1 ls  P hl hf
      exact r_iret C P (rm := rmX6_thermometer) ⟨rfl, rfl⟩ dX6_thermometer_44 hf
    refine r_if_eq C dX6_thermometer_31 hf (fun hf => ?_) (fun hf => ?_)
    · refine r_iconst C (v := 0) (by decide) dX6_thermometer_43 ?_
      exact j44 ((0 : Int32)) _ _ _ P (lv_sub hl [] rfl) hf
    · refine r_aload_n C hl 0 rfl rfl dX6_thermometer_34 ?_
      refine r_iload_n C hl 1 rfl rfl dX6_thermometer_35 ?_
      refine r_iload_n C hl 2 rfl rfl dX6_thermometer_36 ?_
      refine r_qVi C P cf_X6_188 (rm := rmX6_ofGlass) 19 0 (fun _ _ => ⟨_, rfl⟩) rfl rfl rfl [.int v1, .int v2] [] hf (fun _ h => ctX6_ofGlass l G o_4 v1 v2 h) ⟨rfl, rfl⟩ ⟨Nat.le_of_ble_eq_true rfl, Nat.le_of_ble_eq_true rfl⟩ ⟨Nat.le_of_ble_eq_true rfl, Nat.le_of_ble_eq_true rfl⟩ rfl rfl hl.1 (Nat.le_of_ble_eq_true rfl) dX6_thermometer_37 (fun r_6 H1 L1 P hf => ?_)
      refine r_goto C dX6_thermometer_40 ?_
      exact j44 r_6 _ _ _ P (lv_sub hl [] rfl) hf
  refine r_if_ne C dX6_thermometer_6 hf (fun hf => ?_) (fun hf => ?_)
  · refine r_iload_n C hl 2 rfl rfl dX6_thermometer_13 ?_
    refine r_iconst C (v := 0) (by decide) dX6_thermometer_14 ?_
    refine r_bipush C (v := 8) (by decide) dX6_thermometer_15 ?_
    refine r_qSi C P cf_X6_26 (rm := rmX6_in) [.int v2, .int ((0 : Int32)), .int ((8 : Int32))] [.ref (rA G 19 0)] hf (fun _ h => ctX6_in l G o v2 ((0 : Int32)) ((8 : Int32)) h) ⟨rfl, rfl⟩ ⟨Nat.le_of_ble_eq_true rfl, Nat.le_of_ble_eq_true rfl⟩ ⟨Nat.le_of_ble_eq_true rfl, Nat.le_of_ble_eq_true rfl⟩ rfl rfl hl.1 (Nat.le_of_ble_eq_true rfl) dX6_thermometer_17 (fun r_7 H1 L1 P hf => ?_)
    refine r_if_eq C dX6_thermometer_20 hf (fun hf => ?_) (fun hf => ?_)
    · refine r_iconst C (v := 2) (by decide) dX6_thermometer_27 ?_
      exact j28 ((2 : Int32)) _ _ _ P (lv_sub hl [0, 1, 2] rfl) hf
    · refine r_iconst C (v := 0) (by decide) dX6_thermometer_23 ?_
      refine r_goto C dX6_thermometer_24 ?_
      exact j28 ((0 : Int32)) _ _ _ P (lv_sub hl [0, 1, 2] rfl) hf
  · refine r_iconst C (v := 1) (by decide) dX6_thermometer_9 ?_
    refine r_goto C dX6_thermometer_10 ?_
    exact j28 ((1 : Int32)) _ _ _ P (lv_sub hl [0, 1, 2] rfl) hf
theorem ctX6_thermometer (l : Launch) (G : Gd) (o : OM) (v1 : Int32) (v2 : Int32)  {r : Int32} {o9 : OM} (hf : F_X6_thermometer o v1 v2 = some (r, o9)) : Ct l yX6_thermometer cX6_thermometer 3 (some .int) rmX6_thermometer G [.ref (rA G 19 0), .int v1, .int v2] o (some (.int r)) o9 := ct_of (by decide +kernel) (Nat.le_of_ble_eq_true rfl) (fun p e s m below meth c ls C P hl => wX6_thermometer C  P hl hf)
theorem dX6_ofPoint_0 : Dc cX6_ofPoint 0 (.aload_n 0) 1 1 := ⟨by decide +kernel, rfl⟩
theorem dX6_ofPoint_1 : Dc cX6_ofPoint 1 (.iload_n 1) 1 2 := ⟨by decide +kernel, rfl⟩
theorem dX6_ofPoint_2 : Dc cX6_ofPoint 2 (.iload_n 2) 1 3 := ⟨by decide +kernel, rfl⟩
theorem dX6_ofPoint_3 : Dc cX6_ofPoint 3 (.invokevirtual 64) 3 6 := ⟨by decide +kernel, rfl⟩
theorem dX6_ofPoint_6 : Dc cX6_ofPoint 6 (.istore 4) 2 8 := ⟨by decide +kernel, rfl⟩
theorem dX6_ofPoint_8 : Dc cX6_ofPoint 8 (.iload 4) 2 10 := ⟨by decide +kernel, rfl⟩
theorem dX6_ofPoint_10 : Dc cX6_ofPoint 10 (.iconst (-1)) 1 11 := ⟨by decide +kernel, rfl⟩
theorem dX6_ofPoint_11 : Dj cX6_ofPoint 11 (.if_icmp .ne 5) 3 14 (5) 16 := ⟨by decide +kernel, rfl, by decide⟩
theorem dX6_ofPoint_14 : Dc cX6_ofPoint 14 (.iconst (-1)) 1 15 := ⟨by decide +kernel, rfl⟩
theorem dX6_ofPoint_15 : Dc cX6_ofPoint 15 (.ireturn) 1 16 := ⟨by decide +kernel, rfl⟩
theorem dX6_ofPoint_16 : Dc cX6_ofPoint 16 (.iload_n 3) 1 17 := ⟨by decide +kernel, rfl⟩
theorem dX6_ofPoint_17 : Dc cX6_ofPoint 17 (.iconst 3) 1 18 := ⟨by decide +kernel, rfl⟩
theorem dX6_ofPoint_18 : Dj cX6_ofPoint 18 (.if_icmp .ne 13) 3 21 (13) 31 := ⟨by decide +kernel, rfl, by decide⟩
theorem dX6_ofPoint_21 : Dc cX6_ofPoint 21 (.aload_n 0) 1 22 := ⟨by decide +kernel, rfl⟩
theorem dX6_ofPoint_22 : Dc cX6_ofPoint 22 (.iload_n 1) 1 23 := ⟨by decide +kernel, rfl⟩
theorem dX6_ofPoint_23 : Dc cX6_ofPoint 23 (.iload 4) 2 25 := ⟨by decide +kernel, rfl⟩
theorem dX6_ofPoint_25 : Dc cX6_ofPoint 25 (.invokevirtual 61) 3 28 := ⟨by decide +kernel, rfl⟩
theorem dX6_ofPoint_28 : Dj cX6_ofPoint 28 (.goto 24) 3 31 (24) 52 := ⟨by decide +kernel, rfl, by decide⟩
theorem dX6_ofPoint_31 : Dc cX6_ofPoint 31 (.aload_n 0) 1 32 := ⟨by decide +kernel, rfl⟩
theorem dX6_ofPoint_32 : Dc cX6_ofPoint 32 (.iload_n 1) 1 33 := ⟨by decide +kernel, rfl⟩
theorem dX6_ofPoint_33 : Dc cX6_ofPoint 33 (.iload 4) 2 35 := ⟨by decide +kernel, rfl⟩
theorem dX6_ofPoint_35 : Dc cX6_ofPoint 35 (.iload_n 3) 1 36 := ⟨by decide +kernel, rfl⟩
theorem dX6_ofPoint_36 : Dc cX6_ofPoint 36 (.invokevirtual 43) 3 39 := ⟨by decide +kernel, rfl⟩
theorem dX6_ofPoint_39 : Dc cX6_ofPoint 39 (.iload_n 3) 1 40 := ⟨by decide +kernel, rfl⟩
theorem dX6_ofPoint_40 : Dc cX6_ofPoint 40 (.iconst 2) 1 41 := ⟨by decide +kernel, rfl⟩
theorem dX6_ofPoint_41 : Dj cX6_ofPoint 41 (.if_icmp .ge 9) 3 44 (9) 50 := ⟨by decide +kernel, rfl, by decide⟩
theorem dX6_ofPoint_44 : Dc cX6_ofPoint 44 (.sipush 10000) 3 47 := ⟨by decide +kernel, rfl⟩
theorem dX6_ofPoint_47 : Dj cX6_ofPoint 47 (.goto 4) 3 50 (4) 51 := ⟨by decide +kernel, rfl, by decide⟩
theorem dX6_ofPoint_50 : Dc cX6_ofPoint 50 (.iconst 0) 1 51 := ⟨by decide +kernel, rfl⟩
theorem dX6_ofPoint_51 : Dc cX6_ofPoint 51 (.iadd) 1 52 := ⟨by decide +kernel, rfl⟩
theorem dX6_ofPoint_52 : Dc cX6_ofPoint 52 (.ireturn) 1 53 := ⟨by decide +kernel, rfl⟩
def F_X6_ofPoint (o : OM) (v1 : Int32) (v2 : Int32) (v3 : Int32) : Option Int32 := bq (F_X6_ranked o v1 v2) (fun r_1 => if r_1 = ((-1 : Int32)) then (some ((-1 : Int32))) else (bd (fun (s_2 : Int32) => some s_2) (fun k52 => if v3 = ((3 : Int32)) then (bq (F_X6_depthOf o v1 r_1) (fun r_5 => k52 r_5)) else (bq (F_X6_pointOf o v1 r_1 v3) (fun r_3 => bd (fun (s_4 : Int32) => k52 (r_3 + s_4)) (fun k51 => if ((2 : Int32)) ≤ v3 then (k51 ((0 : Int32))) else (k51 ((10000 : Int32)))))))))
abbrev rmX6_ofPoint : Room := { frames := 3, cells := 0, slots := 0, locals := 73 }
set_option maxHeartbeats 4000000 in
set_option maxRecDepth 100000 in
theorem wX6_ofPoint {G : Gd} {p : Program} {l : Launch} {e : Env} {s : State} {m : MethodId} {args : Array Value} {below : List Frame} {meth : Method} {c : Code} {o : OM} {H : Heap} {L0 : List Loc} {ls : Array Slot} {r : Int32} {v1 : Int32} {v2 : Int32} {v3 : Int32} (C : Cx G RX6 cX6_ofPoint 5 (some .int) p s m args meth c)  (P : Hp G o s H L0) (hl : lv_has ls 5 [(0, .ref (rA G 19 0)), (1, .int v1), (2, .int v2), (3, .int v3)]) (hf : F_X6_ofPoint o v1 v2 v3 = some r) : W p l e rmX6_ofPoint s m args below meth c H L0 0 0 (Qm G (some (.int r)) o rmX6_ofPoint below args s) (F0 m 0 ls []) := by
  unfold F_X6_ofPoint at hf
  refine r_aload_n C hl 0 rfl rfl dX6_ofPoint_0 ?_
  refine r_iload_n C hl 1 rfl rfl dX6_ofPoint_1 ?_
  refine r_iload_n C hl 2 rfl rfl dX6_ofPoint_2 ?_
  refine r_qVi C P cf_X6_64 (rm := rmX6_ranked) 19 0 (fun _ _ => ⟨_, rfl⟩) rfl rfl rfl [.int v1, .int v2] [] hf (fun _ h => ctX6_ranked l G o v1 v2 h) ⟨rfl, rfl⟩ ⟨Nat.le_of_ble_eq_true rfl, Nat.le_of_ble_eq_true rfl⟩ ⟨Nat.le_of_ble_eq_true rfl, Nat.le_of_ble_eq_true rfl⟩ rfl rfl hl.1 (Nat.le_of_ble_eq_true rfl) dX6_ofPoint_3 (fun r_1 H1 L1 P hf => ?_)
  refine r_istore C [(4, .int r_1), (0, .ref (rA G 19 0)), (1, .int v1), (2, .int v2), (3, .int v3)] hl (by decide) rfl dX6_ofPoint_6 (fun ls hl => ?_)
  refine r_iload C hl 0 rfl dX6_ofPoint_8 ?_
  refine r_iconst C (v := -1) (by decide) dX6_ofPoint_10 ?_
  refine r_icmp_ne C dX6_ofPoint_11 hf (fun hf => ?_) (fun hf => ?_)
  · refine r_iload_n C hl 4 rfl rfl dX6_ofPoint_16 ?_
    refine r_iconst C (v := 3) (by decide) dX6_ofPoint_17 ?_
    refine r_jn (fun k52 : Int32 → Option Int32 => ∀ (s_2 : Int32) H1 L1 ls, Hp G o s H1 L1 → lv_has ls 5 [] → k52 s_2 = some r → W p l e rmX6_ofPoint s m args below meth c H1 L1 0 0 (Qm G (some (.int r)) o rmX6_ofPoint below args s) (F0 m 52 ls [.int s_2])) hf ?_ (fun k52 j52 hf => ?_)
    · intro s_2 H1 L1 ls  P hl hf
      exact q_iret C P (rm := rmX6_ofPoint) ⟨rfl, rfl⟩ dX6_ofPoint_52 hf
    refine r_icmp_ne C dX6_ofPoint_18 hf (fun hf => ?_) (fun hf => ?_)
    · refine r_aload_n C hl 1 rfl rfl dX6_ofPoint_31 ?_
      refine r_iload_n C hl 2 rfl rfl dX6_ofPoint_32 ?_
      refine r_iload C hl 0 rfl dX6_ofPoint_33 ?_
      refine r_iload_n C hl 4 rfl rfl dX6_ofPoint_35 ?_
      refine r_qVi C P cf_X6_43 (rm := rmX6_pointOf) 19 0 (fun _ _ => ⟨_, rfl⟩) rfl rfl rfl [.int v1, .int r_1, .int v3] [] hf (fun _ h => ctX6_pointOf l G o v1 r_1 v3 h) ⟨rfl, rfl⟩ ⟨Nat.le_of_ble_eq_true rfl, Nat.le_of_ble_eq_true rfl⟩ ⟨Nat.le_of_ble_eq_true rfl, Nat.le_of_ble_eq_true rfl⟩ rfl rfl hl.1 (Nat.le_of_ble_eq_true rfl) dX6_ofPoint_36 (fun r_3 H1 L1 P hf => ?_)
      refine r_iload_n C hl 4 rfl rfl dX6_ofPoint_39 ?_
      refine r_iconst C (v := 2) (by decide) dX6_ofPoint_40 ?_
      refine r_jn (fun k51 : Int32 → Option Int32 => ∀ (s_4 : Int32) H1 L1 ls, Hp G o s H1 L1 → lv_has ls 5 [] → k51 s_4 = some r → W p l e rmX6_ofPoint s m args below meth c H1 L1 0 0 (Qm G (some (.int r)) o rmX6_ofPoint below args s) (F0 m 51 ls [.int s_4, .int r_3])) hf ?_ (fun k51 j51 hf => ?_)
      · intro s_4 H1 L1 ls  P hl hf
        refine r_iadd2 C dX6_ofPoint_51 ?_
        exact j52 (r_3 + s_4) _ _ _ P (lv_sub hl [] rfl) hf
      refine r_icmp_ge C dX6_ofPoint_41 hf (fun hf => ?_) (fun hf => ?_)
      · refine r_iconst C (v := 0) (by decide) dX6_ofPoint_50 ?_
        exact j51 ((0 : Int32)) _ _ _ P (lv_sub hl [] rfl) hf
      · refine r_sipush C (v := 10000) (by decide) dX6_ofPoint_44 ?_
        refine r_goto C dX6_ofPoint_47 ?_
        exact j51 ((10000 : Int32)) _ _ _ P (lv_sub hl [] rfl) hf
    · refine r_aload_n C hl 1 rfl rfl dX6_ofPoint_21 ?_
      refine r_iload_n C hl 2 rfl rfl dX6_ofPoint_22 ?_
      refine r_iload C hl 0 rfl dX6_ofPoint_23 ?_
      refine r_qVi C P cf_X6_61 (rm := rmX6_depthOf) 19 0 (fun _ _ => ⟨_, rfl⟩) rfl rfl rfl [.int v1, .int r_1] [] hf (fun _ h => ctX6_depthOf l G o v1 r_1 h) ⟨rfl, rfl⟩ ⟨Nat.le_of_ble_eq_true rfl, Nat.le_of_ble_eq_true rfl⟩ ⟨Nat.le_of_ble_eq_true rfl, Nat.le_of_ble_eq_true rfl⟩ rfl rfl hl.1 (Nat.le_of_ble_eq_true rfl) dX6_ofPoint_25 (fun r_5 H1 L1 P hf => ?_)
      refine r_goto C dX6_ofPoint_28 ?_
      exact j52 r_5 _ _ _ P (lv_sub hl [] rfl) hf
  · refine r_iconst C (v := -1) (by decide) dX6_ofPoint_14 ?_
    exact q_iret C P (rm := rmX6_ofPoint) ⟨rfl, rfl⟩ dX6_ofPoint_15 hf
theorem ctX6_ofPoint (l : Launch) (G : Gd) (o : OM) (v1 : Int32) (v2 : Int32) (v3 : Int32)  {r : Int32} (hf : F_X6_ofPoint o v1 v2 v3 = some r) : Ct l yX6_ofPoint cX6_ofPoint 5 (some .int) rmX6_ofPoint G [.ref (rA G 19 0), .int v1, .int v2, .int v3] o (some (.int r)) o := ct_of (by decide +kernel) (Nat.le_of_ble_eq_true rfl) (fun p e s m below meth c ls C P hl => wX6_ofPoint C  P hl hf)
theorem cf_X6_191 : CallF false RX6 191 yX6_ofPoint cX6_ofPoint 5 (some .int) 3 := ⟨wd_1174, (by rw [if_neg (by decide)]; exact ⟨wd_1176, wd_56⟩), wd_71, wd_1177, by decide, by decide +kernel⟩
theorem dX6_point_0 : Dc cX6_point 0 (.iload_n 2) 1 1 := ⟨by decide +kernel, rfl⟩
theorem dX6_point_1 : Dj cX6_point 1 (.ifCond .lt 16) 3 4 (16) 17 := ⟨by decide +kernel, rfl, by decide⟩
theorem dX6_point_4 : Dc cX6_point 4 (.iload_n 3) 1 5 := ⟨by decide +kernel, rfl⟩
theorem dX6_point_5 : Dc cX6_point 5 (.iconst 0) 1 6 := ⟨by decide +kernel, rfl⟩
theorem dX6_point_6 : Dc cX6_point 6 (.iconst 3) 1 7 := ⟨by decide +kernel, rfl⟩
theorem dX6_point_7 : Dc cX6_point 7 (.invokestatic 26) 3 10 := ⟨by decide +kernel, rfl⟩
theorem dX6_point_10 : Dj cX6_point 10 (.ifCond .eq 7) 3 13 (7) 17 := ⟨by decide +kernel, rfl, by decide⟩
theorem dX6_point_13 : Dc cX6_point 13 (.iconst 1) 1 14 := ⟨by decide +kernel, rfl⟩
theorem dX6_point_14 : Dj cX6_point 14 (.goto 4) 3 17 (4) 18 := ⟨by decide +kernel, rfl, by decide⟩
theorem dX6_point_17 : Dc cX6_point 17 (.iconst 0) 1 18 := ⟨by decide +kernel, rfl⟩
theorem dX6_point_18 : Dc cX6_point 18 (.istore 4) 2 20 := ⟨by decide +kernel, rfl⟩
theorem dX6_point_20 : Dc cX6_point 20 (.aload_n 0) 1 21 := ⟨by decide +kernel, rfl⟩
theorem dX6_point_21 : Dc cX6_point 21 (.aload_n 0) 1 22 := ⟨by decide +kernel, rfl⟩
theorem dX6_point_22 : Dc cX6_point 22 (.iload_n 1) 1 23 := ⟨by decide +kernel, rfl⟩
theorem dX6_point_23 : Dc cX6_point 23 (.invokevirtual 96) 3 26 := ⟨by decide +kernel, rfl⟩
theorem dX6_point_26 : Dj cX6_point 26 (.ifCond .ne 7) 3 29 (7) 33 := ⟨by decide +kernel, rfl, by decide⟩
theorem dX6_point_29 : Dc cX6_point 29 (.iconst 1) 1 30 := ⟨by decide +kernel, rfl⟩
theorem dX6_point_30 : Dj cX6_point 30 (.goto 13) 3 33 (13) 43 := ⟨by decide +kernel, rfl, by decide⟩
theorem dX6_point_33 : Dc cX6_point 33 (.iload 4) 2 35 := ⟨by decide +kernel, rfl⟩
theorem dX6_point_35 : Dj cX6_point 35 (.ifCond .eq 7) 3 38 (7) 42 := ⟨by decide +kernel, rfl, by decide⟩
theorem dX6_point_38 : Dc cX6_point 38 (.iconst 0) 1 39 := ⟨by decide +kernel, rfl⟩
theorem dX6_point_39 : Dj cX6_point 39 (.goto 4) 3 42 (4) 43 := ⟨by decide +kernel, rfl, by decide⟩
theorem dX6_point_42 : Dc cX6_point 42 (.iconst 2) 1 43 := ⟨by decide +kernel, rfl⟩
theorem dX6_point_43 : Dc cX6_point 43 (.invokevirtual 87) 3 46 := ⟨by decide +kernel, rfl⟩
theorem dX6_point_46 : Dj cX6_point 46 (.ifCond .eq 13) 3 49 (13) 59 := ⟨by decide +kernel, rfl, by decide⟩
theorem dX6_point_49 : Dc cX6_point 49 (.aload_n 0) 1 50 := ⟨by decide +kernel, rfl⟩
theorem dX6_point_50 : Dc cX6_point 50 (.iload_n 1) 1 51 := ⟨by decide +kernel, rfl⟩
theorem dX6_point_51 : Dc cX6_point 51 (.iload_n 2) 1 52 := ⟨by decide +kernel, rfl⟩
theorem dX6_point_52 : Dc cX6_point 52 (.iload_n 3) 1 53 := ⟨by decide +kernel, rfl⟩
theorem dX6_point_53 : Dc cX6_point 53 (.invokevirtual 191) 3 56 := ⟨by decide +kernel, rfl⟩
theorem dX6_point_56 : Dj cX6_point 56 (.goto 4) 3 59 (4) 60 := ⟨by decide +kernel, rfl, by decide⟩
theorem dX6_point_59 : Dc cX6_point 59 (.iconst 0) 1 60 := ⟨by decide +kernel, rfl⟩
theorem dX6_point_60 : Dc cX6_point 60 (.ireturn) 1 61 := ⟨by decide +kernel, rfl⟩
def F_X6_point (o : OM) (v1 : Int32) (v2 : Int32) (v3 : Int32) : Option (Int32 × OM) := bd (fun (s_1 : Int32) => bq (F_X6_isThere o v1) (fun r_2 => bd (fun (s_3 : Int32) => bn (F_X6_holds o s_3) (fun r_4 o_5 => bd (fun (s_6 : Int32) => some (s_6, o_5)) (fun k60 => if r_4 = 0 then (k60 ((0 : Int32))) else (bq (F_X6_ofPoint o_5 v1 v2 v3) (fun r_7 => k60 r_7))))) (fun k43 => if r_2 = 0 then (k43 ((1 : Int32))) else (if s_1 = 0 then (k43 ((2 : Int32))) else (k43 ((0 : Int32))))))) (fun k18 => bd (fun (_ : Unit) => k18 ((0 : Int32))) (fun k17 => if v2 < 0 then (k17 ()) else (bq (F_X6_in o v3 ((0 : Int32)) ((3 : Int32))) (fun r_8 => if r_8 = 0 then (k17 ()) else (k18 ((1 : Int32)))))))
abbrev rmX6_point : Room := { frames := 4, cells := 0, slots := 0, locals := 97 }
set_option maxHeartbeats 4000000 in
set_option maxRecDepth 100000 in
theorem wX6_point {G : Gd} {p : Program} {l : Launch} {e : Env} {s : State} {m : MethodId} {args : Array Value} {below : List Frame} {meth : Method} {c : Code} {o : OM} {H : Heap} {L0 : List Loc} {ls : Array Slot} {r : Int32} {o9 : OM} {v1 : Int32} {v2 : Int32} {v3 : Int32} (C : Cx G RX6 cX6_point 5 (some .int) p s m args meth c)  (P : Hp G o s H L0) (hl : lv_has ls 5 [(0, .ref (rA G 19 0)), (1, .int v1), (2, .int v2), (3, .int v3)]) (hf : F_X6_point o v1 v2 v3 = some (r, o9)) : W p l e rmX6_point s m args below meth c H L0 0 0 (Qm G (some (.int r)) o9 rmX6_point below args s) (F0 m 0 ls []) := by
  unfold F_X6_point at hf
  refine r_iload_n C hl 2 rfl rfl dX6_point_0 ?_
  refine r_jn (fun k18 : Int32 → Option (Int32 × OM) => ∀ (s_1 : Int32) H1 L1 ls, Hp G o s H1 L1 → lv_has ls 5 [(0, .ref (rA G 19 0)), (1, .int v1), (2, .int v2), (3, .int v3)] → k18 s_1 = some (r, o9) → W p l e rmX6_point s m args below meth c H1 L1 0 0 (Qm G (some (.int r)) o9 rmX6_point below args s) (F0 m 18 ls [.int s_1])) hf ?_ (fun k18 j18 hf => ?_)
  · intro s_1 H1 L1 ls  P hl hf
    refine r_istore C [(4, .int s_1), (0, .ref (rA G 19 0)), (1, .int v1), (2, .int v2), (3, .int v3)] hl (by decide) rfl dX6_point_18 (fun ls hl => ?_)
    refine r_aload_n C hl 1 rfl rfl dX6_point_20 ?_
    refine r_aload_n C hl 1 rfl rfl dX6_point_21 ?_
    refine r_iload_n C hl 2 rfl rfl dX6_point_22 ?_
    refine r_qVi C P cf_X6_96 (rm := rmX6_isThere) 19 0 (fun _ _ => ⟨_, rfl⟩) rfl rfl rfl [.int v1] [.ref (rA G 19 0)] hf (fun _ h => ctX6_isThere l G o v1 h) ⟨rfl, rfl⟩ ⟨Nat.le_of_ble_eq_true rfl, Nat.le_of_ble_eq_true rfl⟩ ⟨Nat.le_of_ble_eq_true rfl, Nat.le_of_ble_eq_true rfl⟩ rfl rfl hl.1 (Nat.le_of_ble_eq_true rfl) dX6_point_23 (fun r_2 H1 L1 P hf => ?_)
    refine r_jn (fun k43 : Int32 → Option (Int32 × OM) => ∀ (s_3 : Int32) H1 L1 ls, Hp G o s H1 L1 → lv_has ls 5 [(0, .ref (rA G 19 0)), (1, .int v1), (2, .int v2), (3, .int v3)] → k43 s_3 = some (r, o9) → W p l e rmX6_point s m args below meth c H1 L1 0 0 (Qm G (some (.int r)) o9 rmX6_point below args s) (F0 m 43 ls [.int s_3, .ref (rA G 19 0)])) hf ?_ (fun k43 j43 hf => ?_)
    · intro s_3 H1 L1 ls  P hl hf
      refine r_cVi C P cf_X6_87 (rm := rmX6_holds) 19 0 (fun _ _ => ⟨_, rfl⟩) rfl rfl rfl [.int s_3] [] hf (fun _ _ h => ctX6_holds l G o s_3 h) ⟨rfl, rfl⟩ ⟨Nat.le_of_ble_eq_true rfl, Nat.le_of_ble_eq_true rfl⟩ ⟨Nat.le_of_ble_eq_true rfl, Nat.le_of_ble_eq_true rfl⟩ rfl rfl hl.1 (Nat.le_of_ble_eq_true rfl) dX6_point_43 (fun r_4 o_5 H1 L1 P hf => ?_)
      refine r_jn (fun k60 : Int32 → Option (Int32 × OM) => ∀ (s_6 : Int32) H1 L1 ls, Hp G o_5 s H1 L1 → lv_has ls 5 [] → k60 s_6 = some (r, o9) → W p l e rmX6_point s m args below meth c H1 L1 0 0 (Qm G (some (.int r)) o9 rmX6_point below args s) (F0 m 60 ls [.int s_6])) hf ?_ (fun k60 j60 hf => ?_)
      · intro s_6 H1 L1 ls  P hl hf
        exact r_iret C P (rm := rmX6_point) ⟨rfl, rfl⟩ dX6_point_60 hf
      refine r_if_eq C dX6_point_46 hf (fun hf => ?_) (fun hf => ?_)
      · refine r_iconst C (v := 0) (by decide) dX6_point_59 ?_
        exact j60 ((0 : Int32)) _ _ _ P (lv_sub hl [] rfl) hf
      · refine r_aload_n C hl 0 rfl rfl dX6_point_49 ?_
        refine r_iload_n C hl 1 rfl rfl dX6_point_50 ?_
        refine r_iload_n C hl 2 rfl rfl dX6_point_51 ?_
        refine r_iload_n C hl 3 rfl rfl dX6_point_52 ?_
        refine r_qVi C P cf_X6_191 (rm := rmX6_ofPoint) 19 0 (fun _ _ => ⟨_, rfl⟩) rfl rfl rfl [.int v1, .int v2, .int v3] [] hf (fun _ h => ctX6_ofPoint l G o_5 v1 v2 v3 h) ⟨rfl, rfl⟩ ⟨Nat.le_of_ble_eq_true rfl, Nat.le_of_ble_eq_true rfl⟩ ⟨Nat.le_of_ble_eq_true rfl, Nat.le_of_ble_eq_true rfl⟩ rfl rfl hl.1 (Nat.le_of_ble_eq_true rfl) dX6_point_53 (fun r_7 H1 L1 P hf => ?_)
        refine r_goto C dX6_point_56 ?_
        exact j60 r_7 _ _ _ P (lv_sub hl [] rfl) hf
    refine r_if_ne C dX6_point_26 hf (fun hf => ?_) (fun hf => ?_)
    · refine r_iload C hl 0 rfl dX6_point_33 ?_
      refine r_if_eq C dX6_point_35 hf (fun hf => ?_) (fun hf => ?_)
      · refine r_iconst C (v := 2) (by decide) dX6_point_42 ?_
        exact j43 ((2 : Int32)) _ _ _ P (lv_sub hl [1, 2, 3, 4] rfl) hf
      · refine r_iconst C (v := 0) (by decide) dX6_point_38 ?_
        refine r_goto C dX6_point_39 ?_
        exact j43 ((0 : Int32)) _ _ _ P (lv_sub hl [1, 2, 3, 4] rfl) hf
    · refine r_iconst C (v := 1) (by decide) dX6_point_29 ?_
      refine r_goto C dX6_point_30 ?_
      exact j43 ((1 : Int32)) _ _ _ P (lv_sub hl [1, 2, 3, 4] rfl) hf
  refine r_jn (fun k17 : Unit → Option (Int32 × OM) => ∀ H1 L1 ls, Hp G o s H1 L1 → lv_has ls 5 [(0, .ref (rA G 19 0)), (1, .int v1), (2, .int v2), (3, .int v3)] → k17 () = some (r, o9) → W p l e rmX6_point s m args below meth c H1 L1 0 0 (Qm G (some (.int r)) o9 rmX6_point below args s) (F0 m 17 ls [])) hf ?_ (fun k17 j17 hf => ?_)
  · intro  H1 L1 ls  P hl hf
    refine r_iconst C (v := 0) (by decide) dX6_point_17 ?_
    exact j18 ((0 : Int32)) _ _ _ P (lv_sub hl [0, 1, 2, 3] rfl) hf
  refine r_if_lt C dX6_point_1 hf (fun hf => ?_) (fun hf => ?_)
  · exact j17  _ _ _ P (lv_sub hl [0, 1, 2, 3] rfl) hf
  · refine r_iload_n C hl 3 rfl rfl dX6_point_4 ?_
    refine r_iconst C (v := 0) (by decide) dX6_point_5 ?_
    refine r_iconst C (v := 3) (by decide) dX6_point_6 ?_
    refine r_qSi C P cf_X6_26 (rm := rmX6_in) [.int v3, .int ((0 : Int32)), .int ((3 : Int32))] [] hf (fun _ h => ctX6_in l G o v3 ((0 : Int32)) ((3 : Int32)) h) ⟨rfl, rfl⟩ ⟨Nat.le_of_ble_eq_true rfl, Nat.le_of_ble_eq_true rfl⟩ ⟨Nat.le_of_ble_eq_true rfl, Nat.le_of_ble_eq_true rfl⟩ rfl rfl hl.1 (Nat.le_of_ble_eq_true rfl) dX6_point_7 (fun r_8 H1 L1 P hf => ?_)
    refine r_if_eq C dX6_point_10 hf (fun hf => ?_) (fun hf => ?_)
    · exact j17  _ _ _ P (lv_sub hl [0, 1, 2, 3] rfl) hf
    · refine r_iconst C (v := 1) (by decide) dX6_point_13 ?_
      refine r_goto C dX6_point_14 ?_
      exact j18 ((1 : Int32)) _ _ _ P (lv_sub hl [0, 1, 2, 3] rfl) hf
theorem ctX6_point (l : Launch) (G : Gd) (o : OM) (v1 : Int32) (v2 : Int32) (v3 : Int32)  {r : Int32} {o9 : OM} (hf : F_X6_point o v1 v2 v3 = some (r, o9)) : Ct l yX6_point cX6_point 5 (some .int) rmX6_point G [.ref (rA G 19 0), .int v1, .int v2, .int v3] o (some (.int r)) o9 := ct_of (by decide +kernel) (Nat.le_of_ble_eq_true rfl) (fun p e s m below meth c ls C P hl => wX6_point C  P hl hf)
theorem dX6_sumOf_0 : Dc cX6_sumOf 0 (.iconst 0) 1 1 := ⟨by decide +kernel, rfl⟩
theorem dX6_sumOf_1 : Dc cX6_sumOf 1 (.istore_n 2) 1 2 := ⟨by decide +kernel, rfl⟩
theorem dX6_sumOf_2 : Dc cX6_sumOf 2 (.iconst 0) 1 3 := ⟨by decide +kernel, rfl⟩
theorem dX6_sumOf_3 : Dc cX6_sumOf 3 (.istore_n 3) 1 4 := ⟨by decide +kernel, rfl⟩
theorem dX6_sumOf_4 : Dc cX6_sumOf 4 (.iload_n 3) 1 5 := ⟨by decide +kernel, rfl⟩
theorem dX6_sumOf_5 : Dc cX6_sumOf 5 (.aload_n 0) 1 6 := ⟨by decide +kernel, rfl⟩
theorem dX6_sumOf_6 : Dc cX6_sumOf 6 (.getfield 7) 3 9 := ⟨by decide +kernel, rfl⟩
theorem dX6_sumOf_9 : Dc cX6_sumOf 9 (.sipush 228) 3 12 := ⟨by decide +kernel, rfl⟩
theorem dX6_sumOf_12 : Dc cX6_sumOf 12 (.iaload) 1 13 := ⟨by decide +kernel, rfl⟩
theorem dX6_sumOf_13 : Dj cX6_sumOf 13 (.if_icmp .ge 54) 3 16 (54) 67 := ⟨by decide +kernel, rfl, by decide⟩
theorem dX6_sumOf_16 : Dc cX6_sumOf 16 (.iload_n 2) 1 17 := ⟨by decide +kernel, rfl⟩
theorem dX6_sumOf_17 : Dc cX6_sumOf 17 (.iload_n 1) 1 18 := ⟨by decide +kernel, rfl⟩
theorem dX6_sumOf_18 : Dc cX6_sumOf 18 (.iconst 2) 1 19 := ⟨by decide +kernel, rfl⟩
theorem dX6_sumOf_19 : Dj cX6_sumOf 19 (.if_icmp .ne 13) 3 22 (13) 32 := ⟨by decide +kernel, rfl, by decide⟩
theorem dX6_sumOf_22 : Dc cX6_sumOf 22 (.aload_n 0) 1 23 := ⟨by decide +kernel, rfl⟩
theorem dX6_sumOf_23 : Dc cX6_sumOf 23 (.iload_n 3) 1 24 := ⟨by decide +kernel, rfl⟩
theorem dX6_sumOf_24 : Dc cX6_sumOf 24 (.bipush 7) 2 26 := ⟨by decide +kernel, rfl⟩
theorem dX6_sumOf_26 : Dc cX6_sumOf 26 (.invokevirtual 37) 3 29 := ⟨by decide +kernel, rfl⟩
theorem dX6_sumOf_29 : Dj cX6_sumOf 29 (.goto 30) 3 32 (30) 59 := ⟨by decide +kernel, rfl, by decide⟩
theorem dX6_sumOf_32 : Dc cX6_sumOf 32 (.iload_n 1) 1 33 := ⟨by decide +kernel, rfl⟩
theorem dX6_sumOf_33 : Dc cX6_sumOf 33 (.iconst 3) 1 34 := ⟨by decide +kernel, rfl⟩
theorem dX6_sumOf_34 : Dj cX6_sumOf 34 (.if_icmp .ne 19) 3 37 (19) 53 := ⟨by decide +kernel, rfl, by decide⟩
theorem dX6_sumOf_37 : Dc cX6_sumOf 37 (.aload_n 0) 1 38 := ⟨by decide +kernel, rfl⟩
theorem dX6_sumOf_38 : Dc cX6_sumOf 38 (.iload_n 3) 1 39 := ⟨by decide +kernel, rfl⟩
theorem dX6_sumOf_39 : Dc cX6_sumOf 39 (.invokevirtual 74) 3 42 := ⟨by decide +kernel, rfl⟩
theorem dX6_sumOf_42 : Dj cX6_sumOf 42 (.ifCond .eq 7) 3 45 (7) 49 := ⟨by decide +kernel, rfl, by decide⟩
theorem dX6_sumOf_45 : Dc cX6_sumOf 45 (.iconst 1) 1 46 := ⟨by decide +kernel, rfl⟩
theorem dX6_sumOf_46 : Dj cX6_sumOf 46 (.goto 13) 3 49 (13) 59 := ⟨by decide +kernel, rfl, by decide⟩
theorem dX6_sumOf_49 : Dc cX6_sumOf 49 (.iconst 0) 1 50 := ⟨by decide +kernel, rfl⟩
theorem dX6_sumOf_50 : Dj cX6_sumOf 50 (.goto 9) 3 53 (9) 59 := ⟨by decide +kernel, rfl, by decide⟩
theorem dX6_sumOf_53 : Dc cX6_sumOf 53 (.aload_n 0) 1 54 := ⟨by decide +kernel, rfl⟩
theorem dX6_sumOf_54 : Dc cX6_sumOf 54 (.iload_n 3) 1 55 := ⟨by decide +kernel, rfl⟩
theorem dX6_sumOf_55 : Dc cX6_sumOf 55 (.iconst 4) 1 56 := ⟨by decide +kernel, rfl⟩
theorem dX6_sumOf_56 : Dc cX6_sumOf 56 (.invokevirtual 37) 3 59 := ⟨by decide +kernel, rfl⟩
theorem dX6_sumOf_59 : Dc cX6_sumOf 59 (.iadd) 1 60 := ⟨by decide +kernel, rfl⟩
theorem dX6_sumOf_60 : Dc cX6_sumOf 60 (.istore_n 2) 1 61 := ⟨by decide +kernel, rfl⟩
theorem dX6_sumOf_61 : Dc cX6_sumOf 61 (.iinc 3 1) 3 64 := ⟨by decide +kernel, rfl⟩
theorem dX6_sumOf_64 : Dj cX6_sumOf 64 (.goto (-60)) 3 67 (-60) 4 := ⟨by decide +kernel, rfl, by decide⟩
theorem dX6_sumOf_67 : Dc cX6_sumOf 67 (.iload_n 2) 1 68 := ⟨by decide +kernel, rfl⟩
theorem dX6_sumOf_68 : Dc cX6_sumOf 68 (.ireturn) 1 69 := ⟨by decide +kernel, rfl⟩
def LX6_sumOf_4 (k67 : Int32 → Option Int32) (o : OM) (v1 : Int32) : Nat → Int32 → Int32 → Option Int32
  | 0 => fun _ _ => none
  | n + 1 => fun v2_2 v3_3 => grd (inB ((228 : Int32)) 244) (if (rd o 20 0 ((228 : Int32)).toNatClampNeg) ≤ v3_3 then (k67 v2_2) else (bd (fun (s_4 : Int32) => bd (v2_2 + s_4) (fun v2_5 : Int32 => bd (v3_3 + (1 : Int32)) (fun v3_6 : Int32 => (LX6_sumOf_4 k67 o v1 n) v2_5 v3_6))) (fun k59 => if v1 = ((2 : Int32)) then (bq (F_X6_get o v3_3 ((7 : Int32))) (fun r_9 => k59 r_9)) else (if v1 = ((3 : Int32)) then (bq (F_X6_isValid o v3_3) (fun r_8 => if r_8 = 0 then (k59 ((0 : Int32))) else (k59 ((1 : Int32))))) else (bq (F_X6_get o v3_3 ((4 : Int32))) (fun r_7 => k59 r_7))))))
def F_X6_sumOf (o : OM) (v1 : Int32) : Option Int32 := bd (fun (v2_1 : Int32) => some v2_1) (fun k67 => LX6_sumOf_4 k67 o v1 FU ((0 : Int32)) ((0 : Int32)))
abbrev rmX6_sumOf : Room := { frames := 3, cells := 0, slots := 0, locals := 64 }
set_option maxHeartbeats 4000000 in
set_option maxRecDepth 100000 in
theorem lX6_sumOf_4 {G : Gd} {p : Program} {l : Launch} {e : Env} {s : State} {m : MethodId} {args : Array Value} {below : List Frame} {meth : Method} {c : Code} {r : Int32} {o : OM} {v1 : Int32} (C : Cx G RX6 cX6_sumOf 4 (some .int) p s m args meth c)  {k67 : Int32 → Option Int32} (j67 : ∀ (v2_1 : Int32) H1 L1 ls, Hp G o s H1 L1 → lv_has ls 4 [(2, .int v2_1)] → k67 v2_1 = some r → W p l e rmX6_sumOf s m args below meth c H1 L1 0 0 (Qm G (some (.int r)) o rmX6_sumOf below args s) (F0 m 67 ls [])) : ∀ (n : Nat) (v2_2 : Int32) (v3_3 : Int32) H1 L1 ls, Hp G o s H1 L1 → lv_has ls 4 [(0, .ref (rA G 19 0)), (1, .int v1), (2, .int v2_2), (3, .int v3_3)] → LX6_sumOf_4 k67 o v1 n v2_2 v3_3 = some r → W p l e rmX6_sumOf s m args below meth c H1 L1 0 0 (Qm G (some (.int r)) o rmX6_sumOf below args s) (F0 m 4 ls []) := by
  intro n
  induction n with
  | zero =>
    intro v2_2 v3_3 H1 L1 ls P hl hf
    exact nomatch hf
  | succ n ih =>
    intro v2_2 v3_3 H1 L1 ls P hl hf
    rw [LX6_sumOf_4.eq_2] at hf
    refine r_iload_n C hl 3 rfl rfl dX6_sumOf_4 ?_
    refine r_aload_n C hl 0 rfl rfl dX6_sumOf_5 ?_
    refine gf_19_1 C P rfl wd_880 dX6_sumOf_6 ?_
    refine r_sipush C (v := 228) (by decide) dX6_sumOf_9 ?_
    refine r_iald C P (k := 20) (i := 0) (n := 244) (fun _ _ => rfl) rfl dX6_sumOf_12 hf (fun hf => ?_)
    refine r_icmp_ge C dX6_sumOf_13 hf (fun hf => ?_) (fun hf => ?_)
    · exact j67 v2_2 _ _ _ P (lv_sub hl [2] rfl) hf
    · refine r_iload_n C hl 2 rfl rfl dX6_sumOf_16 ?_
      refine r_iload_n C hl 1 rfl rfl dX6_sumOf_17 ?_
      refine r_iconst C (v := 2) (by decide) dX6_sumOf_18 ?_
      refine r_jn (fun k59 : Int32 → Option Int32 => ∀ (s_4 : Int32) H1 L1 ls, Hp G o s H1 L1 → lv_has ls 4 [(0, .ref (rA G 19 0)), (1, .int v1), (3, .int v3_3)] → k59 s_4 = some r → W p l e rmX6_sumOf s m args below meth c H1 L1 0 0 (Qm G (some (.int r)) o rmX6_sumOf below args s) (F0 m 59 ls [.int s_4, .int v2_2])) hf ?_ (fun k59 j59 hf => ?_)
      · intro s_4 H1 L1 ls  P hl hf
        refine r_iadd2 C dX6_sumOf_59 ?_
        refine r_bdi hf (fun v2_5 hf => ?_)
        refine r_istore_n C [(2, .int v2_5), (0, .ref (rA G 19 0)), (1, .int v1), (3, .int v3_3)] hl (by decide) rfl rfl dX6_sumOf_60 (fun ls hl => ?_)
        refine r_iinc C (fun v3_6 => [(3, .int v3_6), (2, .int v2_5), (0, .ref (rA G 19 0)), (1, .int v1)]) (w := 1) 3 hl rfl (by decide) (by decide) (fun _ => rfl) dX6_sumOf_61 hf (fun v3_6 ls hl hf => ?_)
        refine r_goto C dX6_sumOf_64 ?_
        exact ih v2_5 v3_6 _ _ _ P (lv_sub hl [2, 3, 1, 0] rfl) hf
      refine r_icmp_ne C dX6_sumOf_19 hf (fun hf => ?_) (fun hf => ?_)
      · refine r_iload_n C hl 1 rfl rfl dX6_sumOf_32 ?_
        refine r_iconst C (v := 3) (by decide) dX6_sumOf_33 ?_
        refine r_icmp_ne C dX6_sumOf_34 hf (fun hf => ?_) (fun hf => ?_)
        · refine r_aload_n C hl 0 rfl rfl dX6_sumOf_53 ?_
          refine r_iload_n C hl 3 rfl rfl dX6_sumOf_54 ?_
          refine r_iconst C (v := 4) (by decide) dX6_sumOf_55 ?_
          refine r_qVi C P cf_X6_37 (rm := rmX6_get) 19 0 (fun _ _ => ⟨_, rfl⟩) rfl rfl rfl [.int v3_3, .int ((4 : Int32))] [.int v2_2] hf (fun _ h => ctX6_get l G o v3_3 ((4 : Int32)) h) ⟨rfl, rfl⟩ ⟨Nat.le_of_ble_eq_true rfl, Nat.le_of_ble_eq_true rfl⟩ ⟨Nat.le_of_ble_eq_true rfl, Nat.le_of_ble_eq_true rfl⟩ rfl rfl hl.1 (Nat.le_of_ble_eq_true rfl) dX6_sumOf_56 (fun r_7 H1 L1 P hf => ?_)
          exact j59 r_7 _ _ _ P (lv_sub hl [0, 1, 3] rfl) hf
        · refine r_aload_n C hl 0 rfl rfl dX6_sumOf_37 ?_
          refine r_iload_n C hl 3 rfl rfl dX6_sumOf_38 ?_
          refine r_qVi C P cf_X6_74 (rm := rmX6_isValid) 19 0 (fun _ _ => ⟨_, rfl⟩) rfl rfl rfl [.int v3_3] [.int v2_2] hf (fun _ h => ctX6_isValid l G o v3_3 h) ⟨rfl, rfl⟩ ⟨Nat.le_of_ble_eq_true rfl, Nat.le_of_ble_eq_true rfl⟩ ⟨Nat.le_of_ble_eq_true rfl, Nat.le_of_ble_eq_true rfl⟩ rfl rfl hl.1 (Nat.le_of_ble_eq_true rfl) dX6_sumOf_39 (fun r_8 H1 L1 P hf => ?_)
          refine r_if_eq C dX6_sumOf_42 hf (fun hf => ?_) (fun hf => ?_)
          · refine r_iconst C (v := 0) (by decide) dX6_sumOf_49 ?_
            refine r_goto C dX6_sumOf_50 ?_
            exact j59 ((0 : Int32)) _ _ _ P (lv_sub hl [0, 1, 3] rfl) hf
          · refine r_iconst C (v := 1) (by decide) dX6_sumOf_45 ?_
            refine r_goto C dX6_sumOf_46 ?_
            exact j59 ((1 : Int32)) _ _ _ P (lv_sub hl [0, 1, 3] rfl) hf
      · refine r_aload_n C hl 0 rfl rfl dX6_sumOf_22 ?_
        refine r_iload_n C hl 3 rfl rfl dX6_sumOf_23 ?_
        refine r_bipush C (v := 7) (by decide) dX6_sumOf_24 ?_
        refine r_qVi C P cf_X6_37 (rm := rmX6_get) 19 0 (fun _ _ => ⟨_, rfl⟩) rfl rfl rfl [.int v3_3, .int ((7 : Int32))] [.int v2_2] hf (fun _ h => ctX6_get l G o v3_3 ((7 : Int32)) h) ⟨rfl, rfl⟩ ⟨Nat.le_of_ble_eq_true rfl, Nat.le_of_ble_eq_true rfl⟩ ⟨Nat.le_of_ble_eq_true rfl, Nat.le_of_ble_eq_true rfl⟩ rfl rfl hl.1 (Nat.le_of_ble_eq_true rfl) dX6_sumOf_26 (fun r_9 H1 L1 P hf => ?_)
        refine r_goto C dX6_sumOf_29 ?_
        exact j59 r_9 _ _ _ P (lv_sub hl [0, 1, 3] rfl) hf
set_option maxHeartbeats 4000000 in
set_option maxRecDepth 100000 in
theorem wX6_sumOf {G : Gd} {p : Program} {l : Launch} {e : Env} {s : State} {m : MethodId} {args : Array Value} {below : List Frame} {meth : Method} {c : Code} {o : OM} {H : Heap} {L0 : List Loc} {ls : Array Slot} {r : Int32} {v1 : Int32} (C : Cx G RX6 cX6_sumOf 4 (some .int) p s m args meth c)  (P : Hp G o s H L0) (hl : lv_has ls 4 [(0, .ref (rA G 19 0)), (1, .int v1)]) (hf : F_X6_sumOf o v1 = some r) : W p l e rmX6_sumOf s m args below meth c H L0 0 0 (Qm G (some (.int r)) o rmX6_sumOf below args s) (F0 m 0 ls []) := by
  unfold F_X6_sumOf at hf
  refine r_iconst C (v := 0) (by decide) dX6_sumOf_0 ?_
  refine r_istore_n C [(2, .int ((0 : Int32))), (0, .ref (rA G 19 0)), (1, .int v1)] hl (by decide) rfl rfl dX6_sumOf_1 (fun ls hl => ?_)
  refine r_iconst C (v := 0) (by decide) dX6_sumOf_2 ?_
  refine r_istore_n C [(3, .int ((0 : Int32))), (2, .int ((0 : Int32))), (0, .ref (rA G 19 0)), (1, .int v1)] hl (by decide) rfl rfl dX6_sumOf_3 (fun ls hl => ?_)
  refine r_jn (fun k67 : Int32 → Option Int32 => ∀ (v2_1 : Int32) H1 L1 ls, Hp G o s H1 L1 → lv_has ls 4 [(2, .int v2_1)] → k67 v2_1 = some r → W p l e rmX6_sumOf s m args below meth c H1 L1 0 0 (Qm G (some (.int r)) o rmX6_sumOf below args s) (F0 m 67 ls [])) hf ?_ (fun k67 j67 hf => ?_)
  · intro v2_1 H1 L1 ls  P hl hf
    refine r_iload_n C hl 0 rfl rfl dX6_sumOf_67 ?_
    exact q_iret C P (rm := rmX6_sumOf) ⟨rfl, rfl⟩ dX6_sumOf_68 hf
  exact lX6_sumOf_4 C  j67 FU ((0 : Int32)) ((0 : Int32)) _ _ _ P (lv_sub hl [2, 3, 1, 0] rfl) hf
theorem ctX6_sumOf (l : Launch) (G : Gd) (o : OM) (v1 : Int32)  {r : Int32} (hf : F_X6_sumOf o v1 = some r) : Ct l yX6_sumOf cX6_sumOf 4 (some .int) rmX6_sumOf G [.ref (rA G 19 0), .int v1] o (some (.int r)) o := ct_of (by decide +kernel) (Nat.le_of_ble_eq_true rfl) (fun p e s m below meth c ls C P hl => wX6_sumOf C  P hl hf)
theorem cf_X6_194 : CallF false RX6 194 yX6_sumOf cX6_sumOf 4 (some .int) 1 := ⟨wd_1186, (by rw [if_neg (by decide)]; exact ⟨wd_1188, wd_58⟩), wd_71, wd_1189, by decide, by decide +kernel⟩
theorem dX6_counted_0 : Dc cX6_counted 0 (.iload_n 1) 1 1 := ⟨by decide +kernel, rfl⟩
theorem dX6_counted_1 : Dc cX6_counted 1 (.tableswitch 125 0 17 #[87, 96, 105, 105, 111, 105, 125, 125, 125, 125, 125, 125, 125, 125, 125, 125, 125, 120]) 87 88 := ⟨by decide +kernel, rfl⟩
theorem dX6_counted_88 : Dc cX6_counted 88 (.aload_n 0) 1 89 := ⟨by decide +kernel, rfl⟩
theorem dX6_counted_89 : Dc cX6_counted 89 (.getfield 7) 3 92 := ⟨by decide +kernel, rfl⟩
theorem dX6_counted_92 : Dc cX6_counted 92 (.sipush 233) 3 95 := ⟨by decide +kernel, rfl⟩
theorem dX6_counted_95 : Dc cX6_counted 95 (.iaload) 1 96 := ⟨by decide +kernel, rfl⟩
theorem dX6_counted_96 : Dc cX6_counted 96 (.ireturn) 1 97 := ⟨by decide +kernel, rfl⟩
theorem dX6_counted_97 : Dc cX6_counted 97 (.aload_n 0) 1 98 := ⟨by decide +kernel, rfl⟩
theorem dX6_counted_98 : Dc cX6_counted 98 (.getfield 7) 3 101 := ⟨by decide +kernel, rfl⟩
theorem dX6_counted_101 : Dc cX6_counted 101 (.sipush 228) 3 104 := ⟨by decide +kernel, rfl⟩
theorem dX6_counted_104 : Dc cX6_counted 104 (.iaload) 1 105 := ⟨by decide +kernel, rfl⟩
theorem dX6_counted_105 : Dc cX6_counted 105 (.ireturn) 1 106 := ⟨by decide +kernel, rfl⟩
theorem dX6_counted_106 : Dc cX6_counted 106 (.aload_n 0) 1 107 := ⟨by decide +kernel, rfl⟩
theorem dX6_counted_107 : Dc cX6_counted 107 (.iload_n 1) 1 108 := ⟨by decide +kernel, rfl⟩
theorem dX6_counted_108 : Dc cX6_counted 108 (.invokevirtual 194) 3 111 := ⟨by decide +kernel, rfl⟩
theorem dX6_counted_111 : Dc cX6_counted 111 (.ireturn) 1 112 := ⟨by decide +kernel, rfl⟩
theorem dX6_counted_112 : Dc cX6_counted 112 (.aload_n 0) 1 113 := ⟨by decide +kernel, rfl⟩
theorem dX6_counted_113 : Dc cX6_counted 113 (.getfield 7) 3 116 := ⟨by decide +kernel, rfl⟩
theorem dX6_counted_116 : Dc cX6_counted 116 (.sipush 234) 3 119 := ⟨by decide +kernel, rfl⟩
theorem dX6_counted_119 : Dc cX6_counted 119 (.iaload) 1 120 := ⟨by decide +kernel, rfl⟩
theorem dX6_counted_120 : Dc cX6_counted 120 (.ireturn) 1 121 := ⟨by decide +kernel, rfl⟩
theorem dX6_counted_121 : Dc cX6_counted 121 (.aload_n 0) 1 122 := ⟨by decide +kernel, rfl⟩
theorem dX6_counted_122 : Dc cX6_counted 122 (.getfield 34) 3 125 := ⟨by decide +kernel, rfl⟩
theorem dX6_counted_125 : Dc cX6_counted 125 (.ireturn) 1 126 := ⟨by decide +kernel, rfl⟩
theorem dX6_counted_126 : Dc cX6_counted 126 (.iload_n 1) 1 127 := ⟨by decide +kernel, rfl⟩
theorem dX6_counted_127 : Dc cX6_counted 127 (.bipush 10) 2 129 := ⟨by decide +kernel, rfl⟩
theorem dX6_counted_129 : Dj cX6_counted 129 (.if_icmp .ge 23) 3 132 (23) 152 := ⟨by decide +kernel, rfl, by decide⟩
theorem dX6_counted_132 : Dc cX6_counted 132 (.aload_n 0) 1 133 := ⟨by decide +kernel, rfl⟩
theorem dX6_counted_133 : Dc cX6_counted 133 (.getfield 7) 3 136 := ⟨by decide +kernel, rfl⟩
theorem dX6_counted_136 : Dc cX6_counted 136 (.sipush 229) 3 139 := ⟨by decide +kernel, rfl⟩
theorem dX6_counted_139 : Dc cX6_counted 139 (.iload_n 1) 1 140 := ⟨by decide +kernel, rfl⟩
theorem dX6_counted_140 : Dc cX6_counted 140 (.iadd) 1 141 := ⟨by decide +kernel, rfl⟩
theorem dX6_counted_141 : Dc cX6_counted 141 (.bipush 6) 2 143 := ⟨by decide +kernel, rfl⟩
theorem dX6_counted_143 : Dc cX6_counted 143 (.isub) 1 144 := ⟨by decide +kernel, rfl⟩
theorem dX6_counted_144 : Dc cX6_counted 144 (.iaload) 1 145 := ⟨by decide +kernel, rfl⟩
theorem dX6_counted_145 : Dc cX6_counted 145 (.sipush 10000) 3 148 := ⟨by decide +kernel, rfl⟩
theorem dX6_counted_148 : Dc cX6_counted 148 (.iadd) 1 149 := ⟨by decide +kernel, rfl⟩
theorem dX6_counted_149 : Dj cX6_counted 149 (.goto 16) 3 152 (16) 165 := ⟨by decide +kernel, rfl, by decide⟩
theorem dX6_counted_152 : Dc cX6_counted 152 (.aload_n 0) 1 153 := ⟨by decide +kernel, rfl⟩
theorem dX6_counted_153 : Dc cX6_counted 153 (.getfield 7) 3 156 := ⟨by decide +kernel, rfl⟩
theorem dX6_counted_156 : Dc cX6_counted 156 (.sipush 235) 3 159 := ⟨by decide +kernel, rfl⟩
theorem dX6_counted_159 : Dc cX6_counted 159 (.iload_n 1) 1 160 := ⟨by decide +kernel, rfl⟩
theorem dX6_counted_160 : Dc cX6_counted 160 (.iadd) 1 161 := ⟨by decide +kernel, rfl⟩
theorem dX6_counted_161 : Dc cX6_counted 161 (.bipush 10) 2 163 := ⟨by decide +kernel, rfl⟩
theorem dX6_counted_163 : Dc cX6_counted 163 (.isub) 1 164 := ⟨by decide +kernel, rfl⟩
theorem dX6_counted_164 : Dc cX6_counted 164 (.iaload) 1 165 := ⟨by decide +kernel, rfl⟩
theorem dX6_counted_165 : Dc cX6_counted 165 (.ireturn) 1 166 := ⟨by decide +kernel, rfl⟩
def F_X6_counted (o : OM) (v1 : Int32) : Option Int32 := if v1 = 0 then (grd (inB ((233 : Int32)) 244) (some (rd o 20 0 ((233 : Int32)).toNatClampNeg))) else (if v1 = 1 then (grd (inB ((228 : Int32)) 244) (some (rd o 20 0 ((228 : Int32)).toNatClampNeg))) else (if v1 = 2 then (bq (F_X6_sumOf o v1) (fun r_1 => some r_1)) else (if v1 = 3 then (bq (F_X6_sumOf o v1) (fun r_2 => some r_2)) else (if v1 = 4 then (grd (inB ((234 : Int32)) 244) (some (rd o 20 0 ((234 : Int32)).toNatClampNeg))) else (if v1 = 5 then (bq (F_X6_sumOf o v1) (fun r_3 => some r_3)) else (if v1 = 6 then (bd (fun (s_4 : Int32) => some s_4) (fun k165 => if ((10 : Int32)) ≤ v1 then (grd (inB ((((235 : Int32)) + v1) - ((10 : Int32))) 244) (k165 (rd o 20 0 ((((235 : Int32)) + v1) - ((10 : Int32))).toNatClampNeg))) else (grd (inB ((((229 : Int32)) + v1) - ((6 : Int32))) 244) (k165 ((rd o 20 0 ((((229 : Int32)) + v1) - ((6 : Int32))).toNatClampNeg) + ((10000 : Int32))))))) else (if v1 = 7 then (bd (fun (s_5 : Int32) => some s_5) (fun k165 => if ((10 : Int32)) ≤ v1 then (grd (inB ((((235 : Int32)) + v1) - ((10 : Int32))) 244) (k165 (rd o 20 0 ((((235 : Int32)) + v1) - ((10 : Int32))).toNatClampNeg))) else (grd (inB ((((229 : Int32)) + v1) - ((6 : Int32))) 244) (k165 ((rd o 20 0 ((((229 : Int32)) + v1) - ((6 : Int32))).toNatClampNeg) + ((10000 : Int32))))))) else (if v1 = 8 then (bd (fun (s_6 : Int32) => some s_6) (fun k165 => if ((10 : Int32)) ≤ v1 then (grd (inB ((((235 : Int32)) + v1) - ((10 : Int32))) 244) (k165 (rd o 20 0 ((((235 : Int32)) + v1) - ((10 : Int32))).toNatClampNeg))) else (grd (inB ((((229 : Int32)) + v1) - ((6 : Int32))) 244) (k165 ((rd o 20 0 ((((229 : Int32)) + v1) - ((6 : Int32))).toNatClampNeg) + ((10000 : Int32))))))) else (if v1 = 9 then (bd (fun (s_7 : Int32) => some s_7) (fun k165 => if ((10 : Int32)) ≤ v1 then (grd (inB ((((235 : Int32)) + v1) - ((10 : Int32))) 244) (k165 (rd o 20 0 ((((235 : Int32)) + v1) - ((10 : Int32))).toNatClampNeg))) else (grd (inB ((((229 : Int32)) + v1) - ((6 : Int32))) 244) (k165 ((rd o 20 0 ((((229 : Int32)) + v1) - ((6 : Int32))).toNatClampNeg) + ((10000 : Int32))))))) else (if v1 = 10 then (bd (fun (s_8 : Int32) => some s_8) (fun k165 => if ((10 : Int32)) ≤ v1 then (grd (inB ((((235 : Int32)) + v1) - ((10 : Int32))) 244) (k165 (rd o 20 0 ((((235 : Int32)) + v1) - ((10 : Int32))).toNatClampNeg))) else (grd (inB ((((229 : Int32)) + v1) - ((6 : Int32))) 244) (k165 ((rd o 20 0 ((((229 : Int32)) + v1) - ((6 : Int32))).toNatClampNeg) + ((10000 : Int32))))))) else (if v1 = 11 then (bd (fun (s_9 : Int32) => some s_9) (fun k165 => if ((10 : Int32)) ≤ v1 then (grd (inB ((((235 : Int32)) + v1) - ((10 : Int32))) 244) (k165 (rd o 20 0 ((((235 : Int32)) + v1) - ((10 : Int32))).toNatClampNeg))) else (grd (inB ((((229 : Int32)) + v1) - ((6 : Int32))) 244) (k165 ((rd o 20 0 ((((229 : Int32)) + v1) - ((6 : Int32))).toNatClampNeg) + ((10000 : Int32))))))) else (if v1 = 12 then (bd (fun (s_10 : Int32) => some s_10) (fun k165 => if ((10 : Int32)) ≤ v1 then (grd (inB ((((235 : Int32)) + v1) - ((10 : Int32))) 244) (k165 (rd o 20 0 ((((235 : Int32)) + v1) - ((10 : Int32))).toNatClampNeg))) else (grd (inB ((((229 : Int32)) + v1) - ((6 : Int32))) 244) (k165 ((rd o 20 0 ((((229 : Int32)) + v1) - ((6 : Int32))).toNatClampNeg) + ((10000 : Int32))))))) else (if v1 = 13 then (bd (fun (s_11 : Int32) => some s_11) (fun k165 => if ((10 : Int32)) ≤ v1 then (grd (inB ((((235 : Int32)) + v1) - ((10 : Int32))) 244) (k165 (rd o 20 0 ((((235 : Int32)) + v1) - ((10 : Int32))).toNatClampNeg))) else (grd (inB ((((229 : Int32)) + v1) - ((6 : Int32))) 244) (k165 ((rd o 20 0 ((((229 : Int32)) + v1) - ((6 : Int32))).toNatClampNeg) + ((10000 : Int32))))))) else (if v1 = 14 then (bd (fun (s_12 : Int32) => some s_12) (fun k165 => if ((10 : Int32)) ≤ v1 then (grd (inB ((((235 : Int32)) + v1) - ((10 : Int32))) 244) (k165 (rd o 20 0 ((((235 : Int32)) + v1) - ((10 : Int32))).toNatClampNeg))) else (grd (inB ((((229 : Int32)) + v1) - ((6 : Int32))) 244) (k165 ((rd o 20 0 ((((229 : Int32)) + v1) - ((6 : Int32))).toNatClampNeg) + ((10000 : Int32))))))) else (if v1 = 15 then (bd (fun (s_13 : Int32) => some s_13) (fun k165 => if ((10 : Int32)) ≤ v1 then (grd (inB ((((235 : Int32)) + v1) - ((10 : Int32))) 244) (k165 (rd o 20 0 ((((235 : Int32)) + v1) - ((10 : Int32))).toNatClampNeg))) else (grd (inB ((((229 : Int32)) + v1) - ((6 : Int32))) 244) (k165 ((rd o 20 0 ((((229 : Int32)) + v1) - ((6 : Int32))).toNatClampNeg) + ((10000 : Int32))))))) else (if v1 = 16 then (bd (fun (s_14 : Int32) => some s_14) (fun k165 => if ((10 : Int32)) ≤ v1 then (grd (inB ((((235 : Int32)) + v1) - ((10 : Int32))) 244) (k165 (rd o 20 0 ((((235 : Int32)) + v1) - ((10 : Int32))).toNatClampNeg))) else (grd (inB ((((229 : Int32)) + v1) - ((6 : Int32))) 244) (k165 ((rd o 20 0 ((((229 : Int32)) + v1) - ((6 : Int32))).toNatClampNeg) + ((10000 : Int32))))))) else (if v1 = 17 then (some (rd o 19 0 3)) else (bd (fun (s_15 : Int32) => some s_15) (fun k165 => if ((10 : Int32)) ≤ v1 then (grd (inB ((((235 : Int32)) + v1) - ((10 : Int32))) 244) (k165 (rd o 20 0 ((((235 : Int32)) + v1) - ((10 : Int32))).toNatClampNeg))) else (grd (inB ((((229 : Int32)) + v1) - ((6 : Int32))) 244) (k165 ((rd o 20 0 ((((229 : Int32)) + v1) - ((6 : Int32))).toNatClampNeg) + ((10000 : Int32))))))))))))))))))))))))
abbrev rmX6_counted : Room := { frames := 4, cells := 0, slots := 0, locals := 87 }
set_option maxHeartbeats 4000000 in
set_option maxRecDepth 100000 in
theorem wX6_counted {G : Gd} {p : Program} {l : Launch} {e : Env} {s : State} {m : MethodId} {args : Array Value} {below : List Frame} {meth : Method} {c : Code} {o : OM} {H : Heap} {L0 : List Loc} {ls : Array Slot} {r : Int32} {v1 : Int32} (C : Cx G RX6 cX6_counted 2 (some .int) p s m args meth c)  (P : Hp G o s H L0) (hl : lv_has ls 2 [(0, .ref (rA G 19 0)), (1, .int v1)]) (hf : F_X6_counted o v1 = some r) : W p l e rmX6_counted s m args below meth c H L0 0 0 (Qm G (some (.int r)) o rmX6_counted below args s) (F0 m 0 ls []) := by
  unfold F_X6_counted at hf
  refine r_iload_n C hl 1 rfl rfl dX6_counted_0 ?_
  refine r_ite hf (fun hc0 hf => ?_) (fun hc0 hf => ?_)
  · refine lv_tableIn C.1 C.2.1 (off := 87) (tgt := 88) dX6_counted_1.1 (by rw [hc0] <;> decide) (by rw [hc0] <;> decide) (by rw [hc0] <;> decide) rfl ?_
    refine r_aload_n C hl 0 rfl rfl dX6_counted_88 ?_
    refine gf_19_1 C P rfl wd_880 dX6_counted_89 ?_
    refine r_sipush C (v := 233) (by decide) dX6_counted_92 ?_
    refine r_iald C P (k := 20) (i := 0) (n := 244) (fun _ _ => rfl) rfl dX6_counted_95 hf (fun hf => ?_)
    exact q_iret C P (rm := rmX6_counted) ⟨rfl, rfl⟩ dX6_counted_96 hf
  · refine r_ite hf (fun hc1 hf => ?_) (fun hc1 hf => ?_)
    · refine lv_tableIn C.1 C.2.1 (off := 96) (tgt := 97) dX6_counted_1.1 (by rw [hc1] <;> decide) (by rw [hc1] <;> decide) (by rw [hc1] <;> decide) rfl ?_
      refine r_aload_n C hl 0 rfl rfl dX6_counted_97 ?_
      refine gf_19_1 C P rfl wd_880 dX6_counted_98 ?_
      refine r_sipush C (v := 228) (by decide) dX6_counted_101 ?_
      refine r_iald C P (k := 20) (i := 0) (n := 244) (fun _ _ => rfl) rfl dX6_counted_104 hf (fun hf => ?_)
      exact q_iret C P (rm := rmX6_counted) ⟨rfl, rfl⟩ dX6_counted_105 hf
    · refine r_ite hf (fun hc2 hf => ?_) (fun hc2 hf => ?_)
      · refine lv_tableIn C.1 C.2.1 (off := 105) (tgt := 106) dX6_counted_1.1 (by rw [hc2] <;> decide) (by rw [hc2] <;> decide) (by rw [hc2] <;> decide) rfl ?_
        refine r_aload_n C hl 0 rfl rfl dX6_counted_106 ?_
        refine r_iload_n C hl 1 rfl rfl dX6_counted_107 ?_
        refine r_qVi C P cf_X6_194 (rm := rmX6_sumOf) 19 0 (fun _ _ => ⟨_, rfl⟩) rfl rfl rfl [.int v1] [] hf (fun _ h => ctX6_sumOf l G o v1 h) ⟨rfl, rfl⟩ ⟨Nat.le_of_ble_eq_true rfl, Nat.le_of_ble_eq_true rfl⟩ ⟨Nat.le_of_ble_eq_true rfl, Nat.le_of_ble_eq_true rfl⟩ rfl rfl hl.1 (Nat.le_of_ble_eq_true rfl) dX6_counted_108 (fun r_1 H1 L1 P hf => ?_)
        exact q_iret C P (rm := rmX6_counted) ⟨rfl, rfl⟩ dX6_counted_111 hf
      · refine r_ite hf (fun hc3 hf => ?_) (fun hc3 hf => ?_)
        · refine lv_tableIn C.1 C.2.1 (off := 105) (tgt := 106) dX6_counted_1.1 (by rw [hc3] <;> decide) (by rw [hc3] <;> decide) (by rw [hc3] <;> decide) rfl ?_
          refine r_aload_n C hl 0 rfl rfl dX6_counted_106 ?_
          refine r_iload_n C hl 1 rfl rfl dX6_counted_107 ?_
          refine r_qVi C P cf_X6_194 (rm := rmX6_sumOf) 19 0 (fun _ _ => ⟨_, rfl⟩) rfl rfl rfl [.int v1] [] hf (fun _ h => ctX6_sumOf l G o v1 h) ⟨rfl, rfl⟩ ⟨Nat.le_of_ble_eq_true rfl, Nat.le_of_ble_eq_true rfl⟩ ⟨Nat.le_of_ble_eq_true rfl, Nat.le_of_ble_eq_true rfl⟩ rfl rfl hl.1 (Nat.le_of_ble_eq_true rfl) dX6_counted_108 (fun r_2 H1 L1 P hf => ?_)
          exact q_iret C P (rm := rmX6_counted) ⟨rfl, rfl⟩ dX6_counted_111 hf
        · refine r_ite hf (fun hc4 hf => ?_) (fun hc4 hf => ?_)
          · refine lv_tableIn C.1 C.2.1 (off := 111) (tgt := 112) dX6_counted_1.1 (by rw [hc4] <;> decide) (by rw [hc4] <;> decide) (by rw [hc4] <;> decide) rfl ?_
            refine r_aload_n C hl 0 rfl rfl dX6_counted_112 ?_
            refine gf_19_1 C P rfl wd_880 dX6_counted_113 ?_
            refine r_sipush C (v := 234) (by decide) dX6_counted_116 ?_
            refine r_iald C P (k := 20) (i := 0) (n := 244) (fun _ _ => rfl) rfl dX6_counted_119 hf (fun hf => ?_)
            exact q_iret C P (rm := rmX6_counted) ⟨rfl, rfl⟩ dX6_counted_120 hf
          · refine r_ite hf (fun hc5 hf => ?_) (fun hc5 hf => ?_)
            · refine lv_tableIn C.1 C.2.1 (off := 105) (tgt := 106) dX6_counted_1.1 (by rw [hc5] <;> decide) (by rw [hc5] <;> decide) (by rw [hc5] <;> decide) rfl ?_
              refine r_aload_n C hl 0 rfl rfl dX6_counted_106 ?_
              refine r_iload_n C hl 1 rfl rfl dX6_counted_107 ?_
              refine r_qVi C P cf_X6_194 (rm := rmX6_sumOf) 19 0 (fun _ _ => ⟨_, rfl⟩) rfl rfl rfl [.int v1] [] hf (fun _ h => ctX6_sumOf l G o v1 h) ⟨rfl, rfl⟩ ⟨Nat.le_of_ble_eq_true rfl, Nat.le_of_ble_eq_true rfl⟩ ⟨Nat.le_of_ble_eq_true rfl, Nat.le_of_ble_eq_true rfl⟩ rfl rfl hl.1 (Nat.le_of_ble_eq_true rfl) dX6_counted_108 (fun r_3 H1 L1 P hf => ?_)
              exact q_iret C P (rm := rmX6_counted) ⟨rfl, rfl⟩ dX6_counted_111 hf
            · refine r_ite hf (fun hc6 hf => ?_) (fun hc6 hf => ?_)
              · refine lv_tableIn C.1 C.2.1 (off := 125) (tgt := 126) dX6_counted_1.1 (by rw [hc6] <;> decide) (by rw [hc6] <;> decide) (by rw [hc6] <;> decide) rfl ?_
                refine r_iload_n C hl 1 rfl rfl dX6_counted_126 ?_
                refine r_bipush C (v := 10) (by decide) dX6_counted_127 ?_
                refine r_jn (fun k165 : Int32 → Option Int32 => ∀ (s_4 : Int32) H1 L1 ls, Hp G o s H1 L1 → lv_has ls 2 [] → k165 s_4 = some r → W p l e rmX6_counted s m args below meth c H1 L1 0 0 (Qm G (some (.int r)) o rmX6_counted below args s) (F0 m 165 ls [.int s_4])) hf ?_ (fun k165 j165 hf => ?_)
                · intro s_4 H1 L1 ls  P hl hf
                  exact q_iret C P (rm := rmX6_counted) ⟨rfl, rfl⟩ dX6_counted_165 hf
                refine r_icmp_ge C dX6_counted_129 hf (fun hf => ?_) (fun hf => ?_)
                · refine r_aload_n C hl 0 rfl rfl dX6_counted_152 ?_
                  refine gf_19_1 C P rfl wd_880 dX6_counted_153 ?_
                  refine r_sipush C (v := 235) (by decide) dX6_counted_156 ?_
                  refine r_iload_n C hl 1 rfl rfl dX6_counted_159 ?_
                  refine r_iadd2 C dX6_counted_160 ?_
                  refine r_bipush C (v := 10) (by decide) dX6_counted_161 ?_
                  refine r_isub C dX6_counted_163 ?_
                  refine r_iald C P (k := 20) (i := 0) (n := 244) (fun _ _ => rfl) rfl dX6_counted_164 hf (fun hf => ?_)
                  exact j165 (rd o 20 0 ((((235 : Int32)) + v1) - ((10 : Int32))).toNatClampNeg) _ _ _ P (lv_sub hl [] rfl) hf
                · refine r_aload_n C hl 0 rfl rfl dX6_counted_132 ?_
                  refine gf_19_1 C P rfl wd_880 dX6_counted_133 ?_
                  refine r_sipush C (v := 229) (by decide) dX6_counted_136 ?_
                  refine r_iload_n C hl 1 rfl rfl dX6_counted_139 ?_
                  refine r_iadd2 C dX6_counted_140 ?_
                  refine r_bipush C (v := 6) (by decide) dX6_counted_141 ?_
                  refine r_isub C dX6_counted_143 ?_
                  refine r_iald C P (k := 20) (i := 0) (n := 244) (fun _ _ => rfl) rfl dX6_counted_144 hf (fun hf => ?_)
                  refine r_sipush C (v := 10000) (by decide) dX6_counted_145 ?_
                  refine r_iadd2 C dX6_counted_148 ?_
                  refine r_goto C dX6_counted_149 ?_
                  exact j165 ((rd o 20 0 ((((229 : Int32)) + v1) - ((6 : Int32))).toNatClampNeg) + ((10000 : Int32))) _ _ _ P (lv_sub hl [] rfl) hf
              · refine r_ite hf (fun hc7 hf => ?_) (fun hc7 hf => ?_)
                · refine lv_tableIn C.1 C.2.1 (off := 125) (tgt := 126) dX6_counted_1.1 (by rw [hc7] <;> decide) (by rw [hc7] <;> decide) (by rw [hc7] <;> decide) rfl ?_
                  refine r_iload_n C hl 1 rfl rfl dX6_counted_126 ?_
                  refine r_bipush C (v := 10) (by decide) dX6_counted_127 ?_
                  refine r_jn (fun k165 : Int32 → Option Int32 => ∀ (s_5 : Int32) H1 L1 ls, Hp G o s H1 L1 → lv_has ls 2 [] → k165 s_5 = some r → W p l e rmX6_counted s m args below meth c H1 L1 0 0 (Qm G (some (.int r)) o rmX6_counted below args s) (F0 m 165 ls [.int s_5])) hf ?_ (fun k165 j165 hf => ?_)
                  · intro s_5 H1 L1 ls  P hl hf
                    exact q_iret C P (rm := rmX6_counted) ⟨rfl, rfl⟩ dX6_counted_165 hf
                  refine r_icmp_ge C dX6_counted_129 hf (fun hf => ?_) (fun hf => ?_)
                  · refine r_aload_n C hl 0 rfl rfl dX6_counted_152 ?_
                    refine gf_19_1 C P rfl wd_880 dX6_counted_153 ?_
                    refine r_sipush C (v := 235) (by decide) dX6_counted_156 ?_
                    refine r_iload_n C hl 1 rfl rfl dX6_counted_159 ?_
                    refine r_iadd2 C dX6_counted_160 ?_
                    refine r_bipush C (v := 10) (by decide) dX6_counted_161 ?_
                    refine r_isub C dX6_counted_163 ?_
                    refine r_iald C P (k := 20) (i := 0) (n := 244) (fun _ _ => rfl) rfl dX6_counted_164 hf (fun hf => ?_)
                    exact j165 (rd o 20 0 ((((235 : Int32)) + v1) - ((10 : Int32))).toNatClampNeg) _ _ _ P (lv_sub hl [] rfl) hf
                  · refine r_aload_n C hl 0 rfl rfl dX6_counted_132 ?_
                    refine gf_19_1 C P rfl wd_880 dX6_counted_133 ?_
                    refine r_sipush C (v := 229) (by decide) dX6_counted_136 ?_
                    refine r_iload_n C hl 1 rfl rfl dX6_counted_139 ?_
                    refine r_iadd2 C dX6_counted_140 ?_
                    refine r_bipush C (v := 6) (by decide) dX6_counted_141 ?_
                    refine r_isub C dX6_counted_143 ?_
                    refine r_iald C P (k := 20) (i := 0) (n := 244) (fun _ _ => rfl) rfl dX6_counted_144 hf (fun hf => ?_)
                    refine r_sipush C (v := 10000) (by decide) dX6_counted_145 ?_
                    refine r_iadd2 C dX6_counted_148 ?_
                    refine r_goto C dX6_counted_149 ?_
                    exact j165 ((rd o 20 0 ((((229 : Int32)) + v1) - ((6 : Int32))).toNatClampNeg) + ((10000 : Int32))) _ _ _ P (lv_sub hl [] rfl) hf
                · refine r_ite hf (fun hc8 hf => ?_) (fun hc8 hf => ?_)
                  · refine lv_tableIn C.1 C.2.1 (off := 125) (tgt := 126) dX6_counted_1.1 (by rw [hc8] <;> decide) (by rw [hc8] <;> decide) (by rw [hc8] <;> decide) rfl ?_
                    refine r_iload_n C hl 1 rfl rfl dX6_counted_126 ?_
                    refine r_bipush C (v := 10) (by decide) dX6_counted_127 ?_
                    refine r_jn (fun k165 : Int32 → Option Int32 => ∀ (s_6 : Int32) H1 L1 ls, Hp G o s H1 L1 → lv_has ls 2 [] → k165 s_6 = some r → W p l e rmX6_counted s m args below meth c H1 L1 0 0 (Qm G (some (.int r)) o rmX6_counted below args s) (F0 m 165 ls [.int s_6])) hf ?_ (fun k165 j165 hf => ?_)
                    · intro s_6 H1 L1 ls  P hl hf
                      exact q_iret C P (rm := rmX6_counted) ⟨rfl, rfl⟩ dX6_counted_165 hf
                    refine r_icmp_ge C dX6_counted_129 hf (fun hf => ?_) (fun hf => ?_)
                    · refine r_aload_n C hl 0 rfl rfl dX6_counted_152 ?_
                      refine gf_19_1 C P rfl wd_880 dX6_counted_153 ?_
                      refine r_sipush C (v := 235) (by decide) dX6_counted_156 ?_
                      refine r_iload_n C hl 1 rfl rfl dX6_counted_159 ?_
                      refine r_iadd2 C dX6_counted_160 ?_
                      refine r_bipush C (v := 10) (by decide) dX6_counted_161 ?_
                      refine r_isub C dX6_counted_163 ?_
                      refine r_iald C P (k := 20) (i := 0) (n := 244) (fun _ _ => rfl) rfl dX6_counted_164 hf (fun hf => ?_)
                      exact j165 (rd o 20 0 ((((235 : Int32)) + v1) - ((10 : Int32))).toNatClampNeg) _ _ _ P (lv_sub hl [] rfl) hf
                    · refine r_aload_n C hl 0 rfl rfl dX6_counted_132 ?_
                      refine gf_19_1 C P rfl wd_880 dX6_counted_133 ?_
                      refine r_sipush C (v := 229) (by decide) dX6_counted_136 ?_
                      refine r_iload_n C hl 1 rfl rfl dX6_counted_139 ?_
                      refine r_iadd2 C dX6_counted_140 ?_
                      refine r_bipush C (v := 6) (by decide) dX6_counted_141 ?_
                      refine r_isub C dX6_counted_143 ?_
                      refine r_iald C P (k := 20) (i := 0) (n := 244) (fun _ _ => rfl) rfl dX6_counted_144 hf (fun hf => ?_)
                      refine r_sipush C (v := 10000) (by decide) dX6_counted_145 ?_
                      refine r_iadd2 C dX6_counted_148 ?_
                      refine r_goto C dX6_counted_149 ?_
                      exact j165 ((rd o 20 0 ((((229 : Int32)) + v1) - ((6 : Int32))).toNatClampNeg) + ((10000 : Int32))) _ _ _ P (lv_sub hl [] rfl) hf
                  · refine r_ite hf (fun hc9 hf => ?_) (fun hc9 hf => ?_)
                    · refine lv_tableIn C.1 C.2.1 (off := 125) (tgt := 126) dX6_counted_1.1 (by rw [hc9] <;> decide) (by rw [hc9] <;> decide) (by rw [hc9] <;> decide) rfl ?_
                      refine r_iload_n C hl 1 rfl rfl dX6_counted_126 ?_
                      refine r_bipush C (v := 10) (by decide) dX6_counted_127 ?_
                      refine r_jn (fun k165 : Int32 → Option Int32 => ∀ (s_7 : Int32) H1 L1 ls, Hp G o s H1 L1 → lv_has ls 2 [] → k165 s_7 = some r → W p l e rmX6_counted s m args below meth c H1 L1 0 0 (Qm G (some (.int r)) o rmX6_counted below args s) (F0 m 165 ls [.int s_7])) hf ?_ (fun k165 j165 hf => ?_)
                      · intro s_7 H1 L1 ls  P hl hf
                        exact q_iret C P (rm := rmX6_counted) ⟨rfl, rfl⟩ dX6_counted_165 hf
                      refine r_icmp_ge C dX6_counted_129 hf (fun hf => ?_) (fun hf => ?_)
                      · refine r_aload_n C hl 0 rfl rfl dX6_counted_152 ?_
                        refine gf_19_1 C P rfl wd_880 dX6_counted_153 ?_
                        refine r_sipush C (v := 235) (by decide) dX6_counted_156 ?_
                        refine r_iload_n C hl 1 rfl rfl dX6_counted_159 ?_
                        refine r_iadd2 C dX6_counted_160 ?_
                        refine r_bipush C (v := 10) (by decide) dX6_counted_161 ?_
                        refine r_isub C dX6_counted_163 ?_
                        refine r_iald C P (k := 20) (i := 0) (n := 244) (fun _ _ => rfl) rfl dX6_counted_164 hf (fun hf => ?_)
                        exact j165 (rd o 20 0 ((((235 : Int32)) + v1) - ((10 : Int32))).toNatClampNeg) _ _ _ P (lv_sub hl [] rfl) hf
                      · refine r_aload_n C hl 0 rfl rfl dX6_counted_132 ?_
                        refine gf_19_1 C P rfl wd_880 dX6_counted_133 ?_
                        refine r_sipush C (v := 229) (by decide) dX6_counted_136 ?_
                        refine r_iload_n C hl 1 rfl rfl dX6_counted_139 ?_
                        refine r_iadd2 C dX6_counted_140 ?_
                        refine r_bipush C (v := 6) (by decide) dX6_counted_141 ?_
                        refine r_isub C dX6_counted_143 ?_
                        refine r_iald C P (k := 20) (i := 0) (n := 244) (fun _ _ => rfl) rfl dX6_counted_144 hf (fun hf => ?_)
                        refine r_sipush C (v := 10000) (by decide) dX6_counted_145 ?_
                        refine r_iadd2 C dX6_counted_148 ?_
                        refine r_goto C dX6_counted_149 ?_
                        exact j165 ((rd o 20 0 ((((229 : Int32)) + v1) - ((6 : Int32))).toNatClampNeg) + ((10000 : Int32))) _ _ _ P (lv_sub hl [] rfl) hf
                    · refine r_ite hf (fun hc10 hf => ?_) (fun hc10 hf => ?_)
                      · refine lv_tableIn C.1 C.2.1 (off := 125) (tgt := 126) dX6_counted_1.1 (by rw [hc10] <;> decide) (by rw [hc10] <;> decide) (by rw [hc10] <;> decide) rfl ?_
                        refine r_iload_n C hl 1 rfl rfl dX6_counted_126 ?_
                        refine r_bipush C (v := 10) (by decide) dX6_counted_127 ?_
                        refine r_jn (fun k165 : Int32 → Option Int32 => ∀ (s_8 : Int32) H1 L1 ls, Hp G o s H1 L1 → lv_has ls 2 [] → k165 s_8 = some r → W p l e rmX6_counted s m args below meth c H1 L1 0 0 (Qm G (some (.int r)) o rmX6_counted below args s) (F0 m 165 ls [.int s_8])) hf ?_ (fun k165 j165 hf => ?_)
                        · intro s_8 H1 L1 ls  P hl hf
                          exact q_iret C P (rm := rmX6_counted) ⟨rfl, rfl⟩ dX6_counted_165 hf
                        refine r_icmp_ge C dX6_counted_129 hf (fun hf => ?_) (fun hf => ?_)
                        · refine r_aload_n C hl 0 rfl rfl dX6_counted_152 ?_
                          refine gf_19_1 C P rfl wd_880 dX6_counted_153 ?_
                          refine r_sipush C (v := 235) (by decide) dX6_counted_156 ?_
                          refine r_iload_n C hl 1 rfl rfl dX6_counted_159 ?_
                          refine r_iadd2 C dX6_counted_160 ?_
                          refine r_bipush C (v := 10) (by decide) dX6_counted_161 ?_
                          refine r_isub C dX6_counted_163 ?_
                          refine r_iald C P (k := 20) (i := 0) (n := 244) (fun _ _ => rfl) rfl dX6_counted_164 hf (fun hf => ?_)
                          exact j165 (rd o 20 0 ((((235 : Int32)) + v1) - ((10 : Int32))).toNatClampNeg) _ _ _ P (lv_sub hl [] rfl) hf
                        · refine r_aload_n C hl 0 rfl rfl dX6_counted_132 ?_
                          refine gf_19_1 C P rfl wd_880 dX6_counted_133 ?_
                          refine r_sipush C (v := 229) (by decide) dX6_counted_136 ?_
                          refine r_iload_n C hl 1 rfl rfl dX6_counted_139 ?_
                          refine r_iadd2 C dX6_counted_140 ?_
                          refine r_bipush C (v := 6) (by decide) dX6_counted_141 ?_
                          refine r_isub C dX6_counted_143 ?_
                          refine r_iald C P (k := 20) (i := 0) (n := 244) (fun _ _ => rfl) rfl dX6_counted_144 hf (fun hf => ?_)
                          refine r_sipush C (v := 10000) (by decide) dX6_counted_145 ?_
                          refine r_iadd2 C dX6_counted_148 ?_
                          refine r_goto C dX6_counted_149 ?_
                          exact j165 ((rd o 20 0 ((((229 : Int32)) + v1) - ((6 : Int32))).toNatClampNeg) + ((10000 : Int32))) _ _ _ P (lv_sub hl [] rfl) hf
                      · refine r_ite hf (fun hc11 hf => ?_) (fun hc11 hf => ?_)
                        · refine lv_tableIn C.1 C.2.1 (off := 125) (tgt := 126) dX6_counted_1.1 (by rw [hc11] <;> decide) (by rw [hc11] <;> decide) (by rw [hc11] <;> decide) rfl ?_
                          refine r_iload_n C hl 1 rfl rfl dX6_counted_126 ?_
                          refine r_bipush C (v := 10) (by decide) dX6_counted_127 ?_
                          refine r_jn (fun k165 : Int32 → Option Int32 => ∀ (s_9 : Int32) H1 L1 ls, Hp G o s H1 L1 → lv_has ls 2 [] → k165 s_9 = some r → W p l e rmX6_counted s m args below meth c H1 L1 0 0 (Qm G (some (.int r)) o rmX6_counted below args s) (F0 m 165 ls [.int s_9])) hf ?_ (fun k165 j165 hf => ?_)
                          · intro s_9 H1 L1 ls  P hl hf
                            exact q_iret C P (rm := rmX6_counted) ⟨rfl, rfl⟩ dX6_counted_165 hf
                          refine r_icmp_ge C dX6_counted_129 hf (fun hf => ?_) (fun hf => ?_)
                          · refine r_aload_n C hl 0 rfl rfl dX6_counted_152 ?_
                            refine gf_19_1 C P rfl wd_880 dX6_counted_153 ?_
                            refine r_sipush C (v := 235) (by decide) dX6_counted_156 ?_
                            refine r_iload_n C hl 1 rfl rfl dX6_counted_159 ?_
                            refine r_iadd2 C dX6_counted_160 ?_
                            refine r_bipush C (v := 10) (by decide) dX6_counted_161 ?_
                            refine r_isub C dX6_counted_163 ?_
                            refine r_iald C P (k := 20) (i := 0) (n := 244) (fun _ _ => rfl) rfl dX6_counted_164 hf (fun hf => ?_)
                            exact j165 (rd o 20 0 ((((235 : Int32)) + v1) - ((10 : Int32))).toNatClampNeg) _ _ _ P (lv_sub hl [] rfl) hf
                          · refine r_aload_n C hl 0 rfl rfl dX6_counted_132 ?_
                            refine gf_19_1 C P rfl wd_880 dX6_counted_133 ?_
                            refine r_sipush C (v := 229) (by decide) dX6_counted_136 ?_
                            refine r_iload_n C hl 1 rfl rfl dX6_counted_139 ?_
                            refine r_iadd2 C dX6_counted_140 ?_
                            refine r_bipush C (v := 6) (by decide) dX6_counted_141 ?_
                            refine r_isub C dX6_counted_143 ?_
                            refine r_iald C P (k := 20) (i := 0) (n := 244) (fun _ _ => rfl) rfl dX6_counted_144 hf (fun hf => ?_)
                            refine r_sipush C (v := 10000) (by decide) dX6_counted_145 ?_
                            refine r_iadd2 C dX6_counted_148 ?_
                            refine r_goto C dX6_counted_149 ?_
                            exact j165 ((rd o 20 0 ((((229 : Int32)) + v1) - ((6 : Int32))).toNatClampNeg) + ((10000 : Int32))) _ _ _ P (lv_sub hl [] rfl) hf
                        · refine r_ite hf (fun hc12 hf => ?_) (fun hc12 hf => ?_)
                          · refine lv_tableIn C.1 C.2.1 (off := 125) (tgt := 126) dX6_counted_1.1 (by rw [hc12] <;> decide) (by rw [hc12] <;> decide) (by rw [hc12] <;> decide) rfl ?_
                            refine r_iload_n C hl 1 rfl rfl dX6_counted_126 ?_
                            refine r_bipush C (v := 10) (by decide) dX6_counted_127 ?_
                            refine r_jn (fun k165 : Int32 → Option Int32 => ∀ (s_10 : Int32) H1 L1 ls, Hp G o s H1 L1 → lv_has ls 2 [] → k165 s_10 = some r → W p l e rmX6_counted s m args below meth c H1 L1 0 0 (Qm G (some (.int r)) o rmX6_counted below args s) (F0 m 165 ls [.int s_10])) hf ?_ (fun k165 j165 hf => ?_)
                            · intro s_10 H1 L1 ls  P hl hf
                              exact q_iret C P (rm := rmX6_counted) ⟨rfl, rfl⟩ dX6_counted_165 hf
                            refine r_icmp_ge C dX6_counted_129 hf (fun hf => ?_) (fun hf => ?_)
                            · refine r_aload_n C hl 0 rfl rfl dX6_counted_152 ?_
                              refine gf_19_1 C P rfl wd_880 dX6_counted_153 ?_
                              refine r_sipush C (v := 235) (by decide) dX6_counted_156 ?_
                              refine r_iload_n C hl 1 rfl rfl dX6_counted_159 ?_
                              refine r_iadd2 C dX6_counted_160 ?_
                              refine r_bipush C (v := 10) (by decide) dX6_counted_161 ?_
                              refine r_isub C dX6_counted_163 ?_
                              refine r_iald C P (k := 20) (i := 0) (n := 244) (fun _ _ => rfl) rfl dX6_counted_164 hf (fun hf => ?_)
                              exact j165 (rd o 20 0 ((((235 : Int32)) + v1) - ((10 : Int32))).toNatClampNeg) _ _ _ P (lv_sub hl [] rfl) hf
                            · refine r_aload_n C hl 0 rfl rfl dX6_counted_132 ?_
                              refine gf_19_1 C P rfl wd_880 dX6_counted_133 ?_
                              refine r_sipush C (v := 229) (by decide) dX6_counted_136 ?_
                              refine r_iload_n C hl 1 rfl rfl dX6_counted_139 ?_
                              refine r_iadd2 C dX6_counted_140 ?_
                              refine r_bipush C (v := 6) (by decide) dX6_counted_141 ?_
                              refine r_isub C dX6_counted_143 ?_
                              refine r_iald C P (k := 20) (i := 0) (n := 244) (fun _ _ => rfl) rfl dX6_counted_144 hf (fun hf => ?_)
                              refine r_sipush C (v := 10000) (by decide) dX6_counted_145 ?_
                              refine r_iadd2 C dX6_counted_148 ?_
                              refine r_goto C dX6_counted_149 ?_
                              exact j165 ((rd o 20 0 ((((229 : Int32)) + v1) - ((6 : Int32))).toNatClampNeg) + ((10000 : Int32))) _ _ _ P (lv_sub hl [] rfl) hf
                          · refine r_ite hf (fun hc13 hf => ?_) (fun hc13 hf => ?_)
                            · refine lv_tableIn C.1 C.2.1 (off := 125) (tgt := 126) dX6_counted_1.1 (by rw [hc13] <;> decide) (by rw [hc13] <;> decide) (by rw [hc13] <;> decide) rfl ?_
                              refine r_iload_n C hl 1 rfl rfl dX6_counted_126 ?_
                              refine r_bipush C (v := 10) (by decide) dX6_counted_127 ?_
                              refine r_jn (fun k165 : Int32 → Option Int32 => ∀ (s_11 : Int32) H1 L1 ls, Hp G o s H1 L1 → lv_has ls 2 [] → k165 s_11 = some r → W p l e rmX6_counted s m args below meth c H1 L1 0 0 (Qm G (some (.int r)) o rmX6_counted below args s) (F0 m 165 ls [.int s_11])) hf ?_ (fun k165 j165 hf => ?_)
                              · intro s_11 H1 L1 ls  P hl hf
                                exact q_iret C P (rm := rmX6_counted) ⟨rfl, rfl⟩ dX6_counted_165 hf
                              refine r_icmp_ge C dX6_counted_129 hf (fun hf => ?_) (fun hf => ?_)
                              · refine r_aload_n C hl 0 rfl rfl dX6_counted_152 ?_
                                refine gf_19_1 C P rfl wd_880 dX6_counted_153 ?_
                                refine r_sipush C (v := 235) (by decide) dX6_counted_156 ?_
                                refine r_iload_n C hl 1 rfl rfl dX6_counted_159 ?_
                                refine r_iadd2 C dX6_counted_160 ?_
                                refine r_bipush C (v := 10) (by decide) dX6_counted_161 ?_
                                refine r_isub C dX6_counted_163 ?_
                                refine r_iald C P (k := 20) (i := 0) (n := 244) (fun _ _ => rfl) rfl dX6_counted_164 hf (fun hf => ?_)
                                exact j165 (rd o 20 0 ((((235 : Int32)) + v1) - ((10 : Int32))).toNatClampNeg) _ _ _ P (lv_sub hl [] rfl) hf
                              · refine r_aload_n C hl 0 rfl rfl dX6_counted_132 ?_
                                refine gf_19_1 C P rfl wd_880 dX6_counted_133 ?_
                                refine r_sipush C (v := 229) (by decide) dX6_counted_136 ?_
                                refine r_iload_n C hl 1 rfl rfl dX6_counted_139 ?_
                                refine r_iadd2 C dX6_counted_140 ?_
                                refine r_bipush C (v := 6) (by decide) dX6_counted_141 ?_
                                refine r_isub C dX6_counted_143 ?_
                                refine r_iald C P (k := 20) (i := 0) (n := 244) (fun _ _ => rfl) rfl dX6_counted_144 hf (fun hf => ?_)
                                refine r_sipush C (v := 10000) (by decide) dX6_counted_145 ?_
                                refine r_iadd2 C dX6_counted_148 ?_
                                refine r_goto C dX6_counted_149 ?_
                                exact j165 ((rd o 20 0 ((((229 : Int32)) + v1) - ((6 : Int32))).toNatClampNeg) + ((10000 : Int32))) _ _ _ P (lv_sub hl [] rfl) hf
                            · refine r_ite hf (fun hc14 hf => ?_) (fun hc14 hf => ?_)
                              · refine lv_tableIn C.1 C.2.1 (off := 125) (tgt := 126) dX6_counted_1.1 (by rw [hc14] <;> decide) (by rw [hc14] <;> decide) (by rw [hc14] <;> decide) rfl ?_
                                refine r_iload_n C hl 1 rfl rfl dX6_counted_126 ?_
                                refine r_bipush C (v := 10) (by decide) dX6_counted_127 ?_
                                refine r_jn (fun k165 : Int32 → Option Int32 => ∀ (s_12 : Int32) H1 L1 ls, Hp G o s H1 L1 → lv_has ls 2 [] → k165 s_12 = some r → W p l e rmX6_counted s m args below meth c H1 L1 0 0 (Qm G (some (.int r)) o rmX6_counted below args s) (F0 m 165 ls [.int s_12])) hf ?_ (fun k165 j165 hf => ?_)
                                · intro s_12 H1 L1 ls  P hl hf
                                  exact q_iret C P (rm := rmX6_counted) ⟨rfl, rfl⟩ dX6_counted_165 hf
                                refine r_icmp_ge C dX6_counted_129 hf (fun hf => ?_) (fun hf => ?_)
                                · refine r_aload_n C hl 0 rfl rfl dX6_counted_152 ?_
                                  refine gf_19_1 C P rfl wd_880 dX6_counted_153 ?_
                                  refine r_sipush C (v := 235) (by decide) dX6_counted_156 ?_
                                  refine r_iload_n C hl 1 rfl rfl dX6_counted_159 ?_
                                  refine r_iadd2 C dX6_counted_160 ?_
                                  refine r_bipush C (v := 10) (by decide) dX6_counted_161 ?_
                                  refine r_isub C dX6_counted_163 ?_
                                  refine r_iald C P (k := 20) (i := 0) (n := 244) (fun _ _ => rfl) rfl dX6_counted_164 hf (fun hf => ?_)
                                  exact j165 (rd o 20 0 ((((235 : Int32)) + v1) - ((10 : Int32))).toNatClampNeg) _ _ _ P (lv_sub hl [] rfl) hf
                                · refine r_aload_n C hl 0 rfl rfl dX6_counted_132 ?_
                                  refine gf_19_1 C P rfl wd_880 dX6_counted_133 ?_
                                  refine r_sipush C (v := 229) (by decide) dX6_counted_136 ?_
                                  refine r_iload_n C hl 1 rfl rfl dX6_counted_139 ?_
                                  refine r_iadd2 C dX6_counted_140 ?_
                                  refine r_bipush C (v := 6) (by decide) dX6_counted_141 ?_
                                  refine r_isub C dX6_counted_143 ?_
                                  refine r_iald C P (k := 20) (i := 0) (n := 244) (fun _ _ => rfl) rfl dX6_counted_144 hf (fun hf => ?_)
                                  refine r_sipush C (v := 10000) (by decide) dX6_counted_145 ?_
                                  refine r_iadd2 C dX6_counted_148 ?_
                                  refine r_goto C dX6_counted_149 ?_
                                  exact j165 ((rd o 20 0 ((((229 : Int32)) + v1) - ((6 : Int32))).toNatClampNeg) + ((10000 : Int32))) _ _ _ P (lv_sub hl [] rfl) hf
                              · refine r_ite hf (fun hc15 hf => ?_) (fun hc15 hf => ?_)
                                · refine lv_tableIn C.1 C.2.1 (off := 125) (tgt := 126) dX6_counted_1.1 (by rw [hc15] <;> decide) (by rw [hc15] <;> decide) (by rw [hc15] <;> decide) rfl ?_
                                  refine r_iload_n C hl 1 rfl rfl dX6_counted_126 ?_
                                  refine r_bipush C (v := 10) (by decide) dX6_counted_127 ?_
                                  refine r_jn (fun k165 : Int32 → Option Int32 => ∀ (s_13 : Int32) H1 L1 ls, Hp G o s H1 L1 → lv_has ls 2 [] → k165 s_13 = some r → W p l e rmX6_counted s m args below meth c H1 L1 0 0 (Qm G (some (.int r)) o rmX6_counted below args s) (F0 m 165 ls [.int s_13])) hf ?_ (fun k165 j165 hf => ?_)
                                  · intro s_13 H1 L1 ls  P hl hf
                                    exact q_iret C P (rm := rmX6_counted) ⟨rfl, rfl⟩ dX6_counted_165 hf
                                  refine r_icmp_ge C dX6_counted_129 hf (fun hf => ?_) (fun hf => ?_)
                                  · refine r_aload_n C hl 0 rfl rfl dX6_counted_152 ?_
                                    refine gf_19_1 C P rfl wd_880 dX6_counted_153 ?_
                                    refine r_sipush C (v := 235) (by decide) dX6_counted_156 ?_
                                    refine r_iload_n C hl 1 rfl rfl dX6_counted_159 ?_
                                    refine r_iadd2 C dX6_counted_160 ?_
                                    refine r_bipush C (v := 10) (by decide) dX6_counted_161 ?_
                                    refine r_isub C dX6_counted_163 ?_
                                    refine r_iald C P (k := 20) (i := 0) (n := 244) (fun _ _ => rfl) rfl dX6_counted_164 hf (fun hf => ?_)
                                    exact j165 (rd o 20 0 ((((235 : Int32)) + v1) - ((10 : Int32))).toNatClampNeg) _ _ _ P (lv_sub hl [] rfl) hf
                                  · refine r_aload_n C hl 0 rfl rfl dX6_counted_132 ?_
                                    refine gf_19_1 C P rfl wd_880 dX6_counted_133 ?_
                                    refine r_sipush C (v := 229) (by decide) dX6_counted_136 ?_
                                    refine r_iload_n C hl 1 rfl rfl dX6_counted_139 ?_
                                    refine r_iadd2 C dX6_counted_140 ?_
                                    refine r_bipush C (v := 6) (by decide) dX6_counted_141 ?_
                                    refine r_isub C dX6_counted_143 ?_
                                    refine r_iald C P (k := 20) (i := 0) (n := 244) (fun _ _ => rfl) rfl dX6_counted_144 hf (fun hf => ?_)
                                    refine r_sipush C (v := 10000) (by decide) dX6_counted_145 ?_
                                    refine r_iadd2 C dX6_counted_148 ?_
                                    refine r_goto C dX6_counted_149 ?_
                                    exact j165 ((rd o 20 0 ((((229 : Int32)) + v1) - ((6 : Int32))).toNatClampNeg) + ((10000 : Int32))) _ _ _ P (lv_sub hl [] rfl) hf
                                · refine r_ite hf (fun hc16 hf => ?_) (fun hc16 hf => ?_)
                                  · refine lv_tableIn C.1 C.2.1 (off := 125) (tgt := 126) dX6_counted_1.1 (by rw [hc16] <;> decide) (by rw [hc16] <;> decide) (by rw [hc16] <;> decide) rfl ?_
                                    refine r_iload_n C hl 1 rfl rfl dX6_counted_126 ?_
                                    refine r_bipush C (v := 10) (by decide) dX6_counted_127 ?_
                                    refine r_jn (fun k165 : Int32 → Option Int32 => ∀ (s_14 : Int32) H1 L1 ls, Hp G o s H1 L1 → lv_has ls 2 [] → k165 s_14 = some r → W p l e rmX6_counted s m args below meth c H1 L1 0 0 (Qm G (some (.int r)) o rmX6_counted below args s) (F0 m 165 ls [.int s_14])) hf ?_ (fun k165 j165 hf => ?_)
                                    · intro s_14 H1 L1 ls  P hl hf
                                      exact q_iret C P (rm := rmX6_counted) ⟨rfl, rfl⟩ dX6_counted_165 hf
                                    refine r_icmp_ge C dX6_counted_129 hf (fun hf => ?_) (fun hf => ?_)
                                    · refine r_aload_n C hl 0 rfl rfl dX6_counted_152 ?_
                                      refine gf_19_1 C P rfl wd_880 dX6_counted_153 ?_
                                      refine r_sipush C (v := 235) (by decide) dX6_counted_156 ?_
                                      refine r_iload_n C hl 1 rfl rfl dX6_counted_159 ?_
                                      refine r_iadd2 C dX6_counted_160 ?_
                                      refine r_bipush C (v := 10) (by decide) dX6_counted_161 ?_
                                      refine r_isub C dX6_counted_163 ?_
                                      refine r_iald C P (k := 20) (i := 0) (n := 244) (fun _ _ => rfl) rfl dX6_counted_164 hf (fun hf => ?_)
                                      exact j165 (rd o 20 0 ((((235 : Int32)) + v1) - ((10 : Int32))).toNatClampNeg) _ _ _ P (lv_sub hl [] rfl) hf
                                    · refine r_aload_n C hl 0 rfl rfl dX6_counted_132 ?_
                                      refine gf_19_1 C P rfl wd_880 dX6_counted_133 ?_
                                      refine r_sipush C (v := 229) (by decide) dX6_counted_136 ?_
                                      refine r_iload_n C hl 1 rfl rfl dX6_counted_139 ?_
                                      refine r_iadd2 C dX6_counted_140 ?_
                                      refine r_bipush C (v := 6) (by decide) dX6_counted_141 ?_
                                      refine r_isub C dX6_counted_143 ?_
                                      refine r_iald C P (k := 20) (i := 0) (n := 244) (fun _ _ => rfl) rfl dX6_counted_144 hf (fun hf => ?_)
                                      refine r_sipush C (v := 10000) (by decide) dX6_counted_145 ?_
                                      refine r_iadd2 C dX6_counted_148 ?_
                                      refine r_goto C dX6_counted_149 ?_
                                      exact j165 ((rd o 20 0 ((((229 : Int32)) + v1) - ((6 : Int32))).toNatClampNeg) + ((10000 : Int32))) _ _ _ P (lv_sub hl [] rfl) hf
                                  · refine r_ite hf (fun hc17 hf => ?_) (fun hc17 hf => ?_)
                                    · refine lv_tableIn C.1 C.2.1 (off := 120) (tgt := 121) dX6_counted_1.1 (by rw [hc17] <;> decide) (by rw [hc17] <;> decide) (by rw [hc17] <;> decide) rfl ?_
                                      refine r_aload_n C hl 0 rfl rfl dX6_counted_121 ?_
                                      refine gf_19_3 C P rfl wd_882 dX6_counted_122 ?_
                                      exact q_iret C P (rm := rmX6_counted) ⟨rfl, rfl⟩ dX6_counted_125 hf
                                    · refine lv_tableOut C.1 C.2.1 (tgt := 126) dX6_counted_1.1 (by have q0 := lv_neT hc0 (a := 0) rfl; have q1 := lv_neT hc1 (a := 1) rfl; have q2 := lv_neT hc2 (a := 2) rfl; have q3 := lv_neT hc3 (a := 3) rfl; have q4 := lv_neT hc4 (a := 4) rfl; have q5 := lv_neT hc5 (a := 5) rfl; have q6 := lv_neT hc6 (a := 6) rfl; have q7 := lv_neT hc7 (a := 7) rfl; have q8 := lv_neT hc8 (a := 8) rfl; have q9 := lv_neT hc9 (a := 9) rfl; have q10 := lv_neT hc10 (a := 10) rfl; have q11 := lv_neT hc11 (a := 11) rfl; have q12 := lv_neT hc12 (a := 12) rfl; have q13 := lv_neT hc13 (a := 13) rfl; have q14 := lv_neT hc14 (a := 14) rfl; have q15 := lv_neT hc15 (a := 15) rfl; have q16 := lv_neT hc16 (a := 16) rfl; have q17 := lv_neT hc17 (a := 17) rfl; omega) rfl ?_
                                      refine r_iload_n C hl 1 rfl rfl dX6_counted_126 ?_
                                      refine r_bipush C (v := 10) (by decide) dX6_counted_127 ?_
                                      refine r_jn (fun k165 : Int32 → Option Int32 => ∀ (s_15 : Int32) H1 L1 ls, Hp G o s H1 L1 → lv_has ls 2 [] → k165 s_15 = some r → W p l e rmX6_counted s m args below meth c H1 L1 0 0 (Qm G (some (.int r)) o rmX6_counted below args s) (F0 m 165 ls [.int s_15])) hf ?_ (fun k165 j165 hf => ?_)
                                      · intro s_15 H1 L1 ls  P hl hf
                                        exact q_iret C P (rm := rmX6_counted) ⟨rfl, rfl⟩ dX6_counted_165 hf
                                      refine r_icmp_ge C dX6_counted_129 hf (fun hf => ?_) (fun hf => ?_)
                                      · refine r_aload_n C hl 0 rfl rfl dX6_counted_152 ?_
                                        refine gf_19_1 C P rfl wd_880 dX6_counted_153 ?_
                                        refine r_sipush C (v := 235) (by decide) dX6_counted_156 ?_
                                        refine r_iload_n C hl 1 rfl rfl dX6_counted_159 ?_
                                        refine r_iadd2 C dX6_counted_160 ?_
                                        refine r_bipush C (v := 10) (by decide) dX6_counted_161 ?_
                                        refine r_isub C dX6_counted_163 ?_
                                        refine r_iald C P (k := 20) (i := 0) (n := 244) (fun _ _ => rfl) rfl dX6_counted_164 hf (fun hf => ?_)
                                        exact j165 (rd o 20 0 ((((235 : Int32)) + v1) - ((10 : Int32))).toNatClampNeg) _ _ _ P (lv_sub hl [] rfl) hf
                                      · refine r_aload_n C hl 0 rfl rfl dX6_counted_132 ?_
                                        refine gf_19_1 C P rfl wd_880 dX6_counted_133 ?_
                                        refine r_sipush C (v := 229) (by decide) dX6_counted_136 ?_
                                        refine r_iload_n C hl 1 rfl rfl dX6_counted_139 ?_
                                        refine r_iadd2 C dX6_counted_140 ?_
                                        refine r_bipush C (v := 6) (by decide) dX6_counted_141 ?_
                                        refine r_isub C dX6_counted_143 ?_
                                        refine r_iald C P (k := 20) (i := 0) (n := 244) (fun _ _ => rfl) rfl dX6_counted_144 hf (fun hf => ?_)
                                        refine r_sipush C (v := 10000) (by decide) dX6_counted_145 ?_
                                        refine r_iadd2 C dX6_counted_148 ?_
                                        refine r_goto C dX6_counted_149 ?_
                                        exact j165 ((rd o 20 0 ((((229 : Int32)) + v1) - ((6 : Int32))).toNatClampNeg) + ((10000 : Int32))) _ _ _ P (lv_sub hl [] rfl) hf
theorem ctX6_counted (l : Launch) (G : Gd) (o : OM) (v1 : Int32)  {r : Int32} (hf : F_X6_counted o v1 = some r) : Ct l yX6_counted cX6_counted 2 (some .int) rmX6_counted G [.ref (rA G 19 0), .int v1] o (some (.int r)) o := ct_of (by decide +kernel) (Nat.le_of_ble_eq_true rfl) (fun p e s m below meth c ls C P hl => wX6_counted C  P hl hf)
theorem cf_X6_197 : CallF false RX6 197 yX6_counted cX6_counted 2 (some .int) 1 := ⟨wd_1182, (by rw [if_neg (by decide)]; exact ⟨wd_1184, wd_57⟩), wd_71, wd_1185, by decide, by decide +kernel⟩
theorem dX6_count_0 : Dc cX6_count 0 (.aload_n 0) 1 1 := ⟨by decide +kernel, rfl⟩
theorem dX6_count_1 : Dc cX6_count 1 (.iload_n 1) 1 2 := ⟨by decide +kernel, rfl⟩
theorem dX6_count_2 : Dc cX6_count 2 (.iconst 0) 1 3 := ⟨by decide +kernel, rfl⟩
theorem dX6_count_3 : Dc cX6_count 3 (.bipush 17) 2 5 := ⟨by decide +kernel, rfl⟩
theorem dX6_count_5 : Dc cX6_count 5 (.invokestatic 26) 3 8 := ⟨by decide +kernel, rfl⟩
theorem dX6_count_8 : Dj cX6_count 8 (.ifCond .eq 7) 3 11 (7) 15 := ⟨by decide +kernel, rfl, by decide⟩
theorem dX6_count_11 : Dc cX6_count 11 (.iconst 0) 1 12 := ⟨by decide +kernel, rfl⟩
theorem dX6_count_12 : Dj cX6_count 12 (.goto 4) 3 15 (4) 16 := ⟨by decide +kernel, rfl, by decide⟩
theorem dX6_count_15 : Dc cX6_count 15 (.iconst 1) 1 16 := ⟨by decide +kernel, rfl⟩
theorem dX6_count_16 : Dc cX6_count 16 (.invokevirtual 87) 3 19 := ⟨by decide +kernel, rfl⟩
theorem dX6_count_19 : Dj cX6_count 19 (.ifCond .eq 11) 3 22 (11) 30 := ⟨by decide +kernel, rfl, by decide⟩
theorem dX6_count_22 : Dc cX6_count 22 (.aload_n 0) 1 23 := ⟨by decide +kernel, rfl⟩
theorem dX6_count_23 : Dc cX6_count 23 (.iload_n 1) 1 24 := ⟨by decide +kernel, rfl⟩
theorem dX6_count_24 : Dc cX6_count 24 (.invokevirtual 197) 3 27 := ⟨by decide +kernel, rfl⟩
theorem dX6_count_27 : Dj cX6_count 27 (.goto 4) 3 30 (4) 31 := ⟨by decide +kernel, rfl, by decide⟩
theorem dX6_count_30 : Dc cX6_count 30 (.iconst 0) 1 31 := ⟨by decide +kernel, rfl⟩
theorem dX6_count_31 : Dc cX6_count 31 (.ireturn) 1 32 := ⟨by decide +kernel, rfl⟩
def F_X6_count (o : OM) (v1 : Int32) : Option (Int32 × OM) := bq (F_X6_in o v1 ((0 : Int32)) ((17 : Int32))) (fun r_1 => bd (fun (s_2 : Int32) => bn (F_X6_holds o s_2) (fun r_3 o_4 => bd (fun (s_5 : Int32) => some (s_5, o_4)) (fun k31 => if r_3 = 0 then (k31 ((0 : Int32))) else (bq (F_X6_counted o_4 v1) (fun r_6 => k31 r_6))))) (fun k16 => if r_1 = 0 then (k16 ((1 : Int32))) else (k16 ((0 : Int32)))))
abbrev rmX6_count : Room := { frames := 5, cells := 0, slots := 0, locals := 108 }
set_option maxHeartbeats 4000000 in
set_option maxRecDepth 100000 in
theorem wX6_count {G : Gd} {p : Program} {l : Launch} {e : Env} {s : State} {m : MethodId} {args : Array Value} {below : List Frame} {meth : Method} {c : Code} {o : OM} {H : Heap} {L0 : List Loc} {ls : Array Slot} {r : Int32} {o9 : OM} {v1 : Int32} (C : Cx G RX6 cX6_count 2 (some .int) p s m args meth c)  (P : Hp G o s H L0) (hl : lv_has ls 2 [(0, .ref (rA G 19 0)), (1, .int v1)]) (hf : F_X6_count o v1 = some (r, o9)) : W p l e rmX6_count s m args below meth c H L0 0 0 (Qm G (some (.int r)) o9 rmX6_count below args s) (F0 m 0 ls []) := by
  unfold F_X6_count at hf
  refine r_aload_n C hl 0 rfl rfl dX6_count_0 ?_
  refine r_iload_n C hl 1 rfl rfl dX6_count_1 ?_
  refine r_iconst C (v := 0) (by decide) dX6_count_2 ?_
  refine r_bipush C (v := 17) (by decide) dX6_count_3 ?_
  refine r_qSi C P cf_X6_26 (rm := rmX6_in) [.int v1, .int ((0 : Int32)), .int ((17 : Int32))] [.ref (rA G 19 0)] hf (fun _ h => ctX6_in l G o v1 ((0 : Int32)) ((17 : Int32)) h) ⟨rfl, rfl⟩ ⟨Nat.le_of_ble_eq_true rfl, Nat.le_of_ble_eq_true rfl⟩ ⟨Nat.le_of_ble_eq_true rfl, Nat.le_of_ble_eq_true rfl⟩ rfl rfl hl.1 (Nat.le_of_ble_eq_true rfl) dX6_count_5 (fun r_1 H1 L1 P hf => ?_)
  refine r_jn (fun k16 : Int32 → Option (Int32 × OM) => ∀ (s_2 : Int32) H1 L1 ls, Hp G o s H1 L1 → lv_has ls 2 [(0, .ref (rA G 19 0)), (1, .int v1)] → k16 s_2 = some (r, o9) → W p l e rmX6_count s m args below meth c H1 L1 0 0 (Qm G (some (.int r)) o9 rmX6_count below args s) (F0 m 16 ls [.int s_2, .ref (rA G 19 0)])) hf ?_ (fun k16 j16 hf => ?_)
  · intro s_2 H1 L1 ls  P hl hf
    refine r_cVi C P cf_X6_87 (rm := rmX6_holds) 19 0 (fun _ _ => ⟨_, rfl⟩) rfl rfl rfl [.int s_2] [] hf (fun _ _ h => ctX6_holds l G o s_2 h) ⟨rfl, rfl⟩ ⟨Nat.le_of_ble_eq_true rfl, Nat.le_of_ble_eq_true rfl⟩ ⟨Nat.le_of_ble_eq_true rfl, Nat.le_of_ble_eq_true rfl⟩ rfl rfl hl.1 (Nat.le_of_ble_eq_true rfl) dX6_count_16 (fun r_3 o_4 H1 L1 P hf => ?_)
    refine r_jn (fun k31 : Int32 → Option (Int32 × OM) => ∀ (s_5 : Int32) H1 L1 ls, Hp G o_4 s H1 L1 → lv_has ls 2 [] → k31 s_5 = some (r, o9) → W p l e rmX6_count s m args below meth c H1 L1 0 0 (Qm G (some (.int r)) o9 rmX6_count below args s) (F0 m 31 ls [.int s_5])) hf ?_ (fun k31 j31 hf => ?_)
    · intro s_5 H1 L1 ls  P hl hf
      exact r_iret C P (rm := rmX6_count) ⟨rfl, rfl⟩ dX6_count_31 hf
    refine r_if_eq C dX6_count_19 hf (fun hf => ?_) (fun hf => ?_)
    · refine r_iconst C (v := 0) (by decide) dX6_count_30 ?_
      exact j31 ((0 : Int32)) _ _ _ P (lv_sub hl [] rfl) hf
    · refine r_aload_n C hl 0 rfl rfl dX6_count_22 ?_
      refine r_iload_n C hl 1 rfl rfl dX6_count_23 ?_
      refine r_qVi C P cf_X6_197 (rm := rmX6_counted) 19 0 (fun _ _ => ⟨_, rfl⟩) rfl rfl rfl [.int v1] [] hf (fun _ h => ctX6_counted l G o_4 v1 h) ⟨rfl, rfl⟩ ⟨Nat.le_of_ble_eq_true rfl, Nat.le_of_ble_eq_true rfl⟩ ⟨Nat.le_of_ble_eq_true rfl, Nat.le_of_ble_eq_true rfl⟩ rfl rfl hl.1 (Nat.le_of_ble_eq_true rfl) dX6_count_24 (fun r_6 H1 L1 P hf => ?_)
      refine r_goto C dX6_count_27 ?_
      exact j31 r_6 _ _ _ P (lv_sub hl [] rfl) hf
  refine r_if_eq C dX6_count_8 hf (fun hf => ?_) (fun hf => ?_)
  · refine r_iconst C (v := 1) (by decide) dX6_count_15 ?_
    exact j16 ((1 : Int32)) _ _ _ P (lv_sub hl [0, 1] rfl) hf
  · refine r_iconst C (v := 0) (by decide) dX6_count_11 ?_
    refine r_goto C dX6_count_12 ?_
    exact j16 ((0 : Int32)) _ _ _ P (lv_sub hl [0, 1] rfl) hf
theorem ctX6_count (l : Launch) (G : Gd) (o : OM) (v1 : Int32)  {r : Int32} {o9 : OM} (hf : F_X6_count o v1 = some (r, o9)) : Ct l yX6_count cX6_count 2 (some .int) rmX6_count G [.ref (rA G 19 0), .int v1] o (some (.int r)) o9 := ct_of (by decide +kernel) (Nat.le_of_ble_eq_true rfl) (fun p e s m below meth c ls C P hl => wX6_count C  P hl hf)
theorem dX6_whyNot_0 : Dc cX6_whyNot 0 (.aload_n 0) 1 1 := ⟨by decide +kernel, rfl⟩
theorem dX6_whyNot_1 : Dc cX6_whyNot 1 (.aload_n 0) 1 2 := ⟨by decide +kernel, rfl⟩
theorem dX6_whyNot_2 : Dc cX6_whyNot 2 (.iload_n 1) 1 3 := ⟨by decide +kernel, rfl⟩
theorem dX6_whyNot_3 : Dc cX6_whyNot 3 (.invokevirtual 96) 3 6 := ⟨by decide +kernel, rfl⟩
theorem dX6_whyNot_6 : Dj cX6_whyNot 6 (.ifCond .eq 14) 3 9 (14) 20 := ⟨by decide +kernel, rfl, by decide⟩
theorem dX6_whyNot_9 : Dc cX6_whyNot 9 (.iload_n 2) 1 10 := ⟨by decide +kernel, rfl⟩
theorem dX6_whyNot_10 : Dc cX6_whyNot 10 (.invokestatic 99) 3 13 := ⟨by decide +kernel, rfl⟩
theorem dX6_whyNot_13 : Dj cX6_whyNot 13 (.ifCond .eq 7) 3 16 (7) 20 := ⟨by decide +kernel, rfl, by decide⟩
theorem dX6_whyNot_16 : Dc cX6_whyNot 16 (.iconst 0) 1 17 := ⟨by decide +kernel, rfl⟩
theorem dX6_whyNot_17 : Dj cX6_whyNot 17 (.goto 4) 3 20 (4) 21 := ⟨by decide +kernel, rfl, by decide⟩
theorem dX6_whyNot_20 : Dc cX6_whyNot 20 (.iconst 1) 1 21 := ⟨by decide +kernel, rfl⟩
theorem dX6_whyNot_21 : Dc cX6_whyNot 21 (.invokevirtual 87) 3 24 := ⟨by decide +kernel, rfl⟩
theorem dX6_whyNot_24 : Dj cX6_whyNot 24 (.ifCond .eq 12) 3 27 (12) 36 := ⟨by decide +kernel, rfl, by decide⟩
theorem dX6_whyNot_27 : Dc cX6_whyNot 27 (.aload_n 0) 1 28 := ⟨by decide +kernel, rfl⟩
theorem dX6_whyNot_28 : Dc cX6_whyNot 28 (.iload_n 1) 1 29 := ⟨by decide +kernel, rfl⟩
theorem dX6_whyNot_29 : Dc cX6_whyNot 29 (.iload_n 2) 1 30 := ⟨by decide +kernel, rfl⟩
theorem dX6_whyNot_30 : Dc cX6_whyNot 30 (.invokevirtual 115) 3 33 := ⟨by decide +kernel, rfl⟩
theorem dX6_whyNot_33 : Dj cX6_whyNot 33 (.goto 4) 3 36 (4) 37 := ⟨by decide +kernel, rfl, by decide⟩
theorem dX6_whyNot_36 : Dc cX6_whyNot 36 (.iconst 0) 1 37 := ⟨by decide +kernel, rfl⟩
theorem dX6_whyNot_37 : Dc cX6_whyNot 37 (.ireturn) 1 38 := ⟨by decide +kernel, rfl⟩
def F_X6_whyNot (o : OM) (v1 : Int32) (v2 : Int32) : Option (Int32 × OM) := bq (F_X6_isThere o v1) (fun r_1 => bd (fun (s_2 : Int32) => bn (F_X6_holds o s_2) (fun r_3 o_4 => bd (fun (s_5 : Int32) => some (s_5, o_4)) (fun k37 => if r_3 = 0 then (k37 ((0 : Int32))) else (bq (F_X6_hindrance o_4 v1 v2) (fun r_6 => k37 r_6))))) (fun k21 => if r_1 = 0 then (k21 ((1 : Int32))) else (bq (F_X6_isBath o v2) (fun r_7 => if r_7 = 0 then (k21 ((1 : Int32))) else (k21 ((0 : Int32)))))))
abbrev rmX6_whyNot : Room := { frames := 4, cells := 0, slots := 0, locals := 94 }
set_option maxHeartbeats 4000000 in
set_option maxRecDepth 100000 in
theorem wX6_whyNot {G : Gd} {p : Program} {l : Launch} {e : Env} {s : State} {m : MethodId} {args : Array Value} {below : List Frame} {meth : Method} {c : Code} {o : OM} {H : Heap} {L0 : List Loc} {ls : Array Slot} {r : Int32} {o9 : OM} {v1 : Int32} {v2 : Int32} (C : Cx G RX6 cX6_whyNot 3 (some .int) p s m args meth c)  (P : Hp G o s H L0) (hl : lv_has ls 3 [(0, .ref (rA G 19 0)), (1, .int v1), (2, .int v2)]) (hf : F_X6_whyNot o v1 v2 = some (r, o9)) : W p l e rmX6_whyNot s m args below meth c H L0 0 0 (Qm G (some (.int r)) o9 rmX6_whyNot below args s) (F0 m 0 ls []) := by
  unfold F_X6_whyNot at hf
  refine r_aload_n C hl 0 rfl rfl dX6_whyNot_0 ?_
  refine r_aload_n C hl 0 rfl rfl dX6_whyNot_1 ?_
  refine r_iload_n C hl 1 rfl rfl dX6_whyNot_2 ?_
  refine r_qVi C P cf_X6_96 (rm := rmX6_isThere) 19 0 (fun _ _ => ⟨_, rfl⟩) rfl rfl rfl [.int v1] [.ref (rA G 19 0)] hf (fun _ h => ctX6_isThere l G o v1 h) ⟨rfl, rfl⟩ ⟨Nat.le_of_ble_eq_true rfl, Nat.le_of_ble_eq_true rfl⟩ ⟨Nat.le_of_ble_eq_true rfl, Nat.le_of_ble_eq_true rfl⟩ rfl rfl hl.1 (Nat.le_of_ble_eq_true rfl) dX6_whyNot_3 (fun r_1 H1 L1 P hf => ?_)
  refine r_jn (fun k21 : Int32 → Option (Int32 × OM) => ∀ (s_2 : Int32) H1 L1 ls, Hp G o s H1 L1 → lv_has ls 3 [(0, .ref (rA G 19 0)), (1, .int v1), (2, .int v2)] → k21 s_2 = some (r, o9) → W p l e rmX6_whyNot s m args below meth c H1 L1 0 0 (Qm G (some (.int r)) o9 rmX6_whyNot below args s) (F0 m 21 ls [.int s_2, .ref (rA G 19 0)])) hf ?_ (fun k21 j21 hf => ?_)
  · intro s_2 H1 L1 ls  P hl hf
    refine r_cVi C P cf_X6_87 (rm := rmX6_holds) 19 0 (fun _ _ => ⟨_, rfl⟩) rfl rfl rfl [.int s_2] [] hf (fun _ _ h => ctX6_holds l G o s_2 h) ⟨rfl, rfl⟩ ⟨Nat.le_of_ble_eq_true rfl, Nat.le_of_ble_eq_true rfl⟩ ⟨Nat.le_of_ble_eq_true rfl, Nat.le_of_ble_eq_true rfl⟩ rfl rfl hl.1 (Nat.le_of_ble_eq_true rfl) dX6_whyNot_21 (fun r_3 o_4 H1 L1 P hf => ?_)
    refine r_jn (fun k37 : Int32 → Option (Int32 × OM) => ∀ (s_5 : Int32) H1 L1 ls, Hp G o_4 s H1 L1 → lv_has ls 3 [] → k37 s_5 = some (r, o9) → W p l e rmX6_whyNot s m args below meth c H1 L1 0 0 (Qm G (some (.int r)) o9 rmX6_whyNot below args s) (F0 m 37 ls [.int s_5])) hf ?_ (fun k37 j37 hf => ?_)
    · intro s_5 H1 L1 ls  P hl hf
      exact r_iret C P (rm := rmX6_whyNot) ⟨rfl, rfl⟩ dX6_whyNot_37 hf
    refine r_if_eq C dX6_whyNot_24 hf (fun hf => ?_) (fun hf => ?_)
    · refine r_iconst C (v := 0) (by decide) dX6_whyNot_36 ?_
      exact j37 ((0 : Int32)) _ _ _ P (lv_sub hl [] rfl) hf
    · refine r_aload_n C hl 0 rfl rfl dX6_whyNot_27 ?_
      refine r_iload_n C hl 1 rfl rfl dX6_whyNot_28 ?_
      refine r_iload_n C hl 2 rfl rfl dX6_whyNot_29 ?_
      refine r_qVi C P cf_X6_115 (rm := rmX6_hindrance) 19 0 (fun _ _ => ⟨_, rfl⟩) rfl rfl rfl [.int v1, .int v2] [] hf (fun _ h => ctX6_hindrance l G o_4 v1 v2 h) ⟨rfl, rfl⟩ ⟨Nat.le_of_ble_eq_true rfl, Nat.le_of_ble_eq_true rfl⟩ ⟨Nat.le_of_ble_eq_true rfl, Nat.le_of_ble_eq_true rfl⟩ rfl rfl hl.1 (Nat.le_of_ble_eq_true rfl) dX6_whyNot_30 (fun r_6 H1 L1 P hf => ?_)
      refine r_goto C dX6_whyNot_33 ?_
      exact j37 r_6 _ _ _ P (lv_sub hl [] rfl) hf
  refine r_if_eq C dX6_whyNot_6 hf (fun hf => ?_) (fun hf => ?_)
  · refine r_iconst C (v := 1) (by decide) dX6_whyNot_20 ?_
    exact j21 ((1 : Int32)) _ _ _ P (lv_sub hl [0, 1, 2] rfl) hf
  · refine r_iload_n C hl 2 rfl rfl dX6_whyNot_9 ?_
    refine r_qSi C P cf_X6_99 (rm := rmX6_isBath) [.int v2] [.ref (rA G 19 0)] hf (fun _ h => ctX6_isBath l G o v2 h) ⟨rfl, rfl⟩ ⟨Nat.le_of_ble_eq_true rfl, Nat.le_of_ble_eq_true rfl⟩ ⟨Nat.le_of_ble_eq_true rfl, Nat.le_of_ble_eq_true rfl⟩ rfl rfl hl.1 (Nat.le_of_ble_eq_true rfl) dX6_whyNot_10 (fun r_7 H1 L1 P hf => ?_)
    refine r_if_eq C dX6_whyNot_13 hf (fun hf => ?_) (fun hf => ?_)
    · refine r_iconst C (v := 1) (by decide) dX6_whyNot_20 ?_
      exact j21 ((1 : Int32)) _ _ _ P (lv_sub hl [0, 1, 2] rfl) hf
    · refine r_iconst C (v := 0) (by decide) dX6_whyNot_16 ?_
      refine r_goto C dX6_whyNot_17 ?_
      exact j21 ((0 : Int32)) _ _ _ P (lv_sub hl [0, 1, 2] rfl) hf
theorem ctX6_whyNot (l : Launch) (G : Gd) (o : OM) (v1 : Int32) (v2 : Int32)  {r : Int32} {o9 : OM} (hf : F_X6_whyNot o v1 v2 = some (r, o9)) : Ct l yX6_whyNot cX6_whyNot 3 (some .int) rmX6_whyNot G [.ref (rA G 19 0), .int v1, .int v2] o (some (.int r)) o9 := ct_of (by decide +kernel) (Nat.le_of_ble_eq_true rfl) (fun p e s m below meth c ls C P hl => wX6_whyNot C  P hl hf)
theorem dX6_overlap_0 : Dc cX6_overlap 0 (.aload_n 0) 1 1 := ⟨by decide +kernel, rfl⟩
theorem dX6_overlap_1 : Dc cX6_overlap 1 (.iload_n 1) 1 2 := ⟨by decide +kernel, rfl⟩
theorem dX6_overlap_2 : Dc cX6_overlap 2 (.invokevirtual 96) 3 5 := ⟨by decide +kernel, rfl⟩
theorem dX6_overlap_5 : Dj cX6_overlap 5 (.ifCond .eq 15) 3 8 (15) 20 := ⟨by decide +kernel, rfl, by decide⟩
theorem dX6_overlap_8 : Dc cX6_overlap 8 (.aload_n 0) 1 9 := ⟨by decide +kernel, rfl⟩
theorem dX6_overlap_9 : Dc cX6_overlap 9 (.iload_n 2) 1 10 := ⟨by decide +kernel, rfl⟩
theorem dX6_overlap_10 : Dc cX6_overlap 10 (.invokevirtual 96) 3 13 := ⟨by decide +kernel, rfl⟩
theorem dX6_overlap_13 : Dj cX6_overlap 13 (.ifCond .eq 7) 3 16 (7) 20 := ⟨by decide +kernel, rfl, by decide⟩
theorem dX6_overlap_16 : Dc cX6_overlap 16 (.iconst 1) 1 17 := ⟨by decide +kernel, rfl⟩
theorem dX6_overlap_17 : Dj cX6_overlap 17 (.goto 4) 3 20 (4) 21 := ⟨by decide +kernel, rfl, by decide⟩
theorem dX6_overlap_20 : Dc cX6_overlap 20 (.iconst 0) 1 21 := ⟨by decide +kernel, rfl⟩
theorem dX6_overlap_21 : Dc cX6_overlap 21 (.istore 4) 2 23 := ⟨by decide +kernel, rfl⟩
theorem dX6_overlap_23 : Dc cX6_overlap 23 (.aload_n 0) 1 24 := ⟨by decide +kernel, rfl⟩
theorem dX6_overlap_24 : Dc cX6_overlap 24 (.iload 4) 2 26 := ⟨by decide +kernel, rfl⟩
theorem dX6_overlap_26 : Dj cX6_overlap 26 (.ifCond .ne 7) 3 29 (7) 33 := ⟨by decide +kernel, rfl, by decide⟩
theorem dX6_overlap_29 : Dc cX6_overlap 29 (.iconst 1) 1 30 := ⟨by decide +kernel, rfl⟩
theorem dX6_overlap_30 : Dj cX6_overlap 30 (.goto 15) 3 33 (15) 45 := ⟨by decide +kernel, rfl, by decide⟩
theorem dX6_overlap_33 : Dc cX6_overlap 33 (.iload_n 3) 1 34 := ⟨by decide +kernel, rfl⟩
theorem dX6_overlap_34 : Dc cX6_overlap 34 (.invokestatic 102) 3 37 := ⟨by decide +kernel, rfl⟩
theorem dX6_overlap_37 : Dj cX6_overlap 37 (.ifCond .eq 7) 3 40 (7) 44 := ⟨by decide +kernel, rfl, by decide⟩
theorem dX6_overlap_40 : Dc cX6_overlap 40 (.iconst 0) 1 41 := ⟨by decide +kernel, rfl⟩
theorem dX6_overlap_41 : Dj cX6_overlap 41 (.goto 4) 3 44 (4) 45 := ⟨by decide +kernel, rfl, by decide⟩
theorem dX6_overlap_44 : Dc cX6_overlap 44 (.iconst 2) 1 45 := ⟨by decide +kernel, rfl⟩
theorem dX6_overlap_45 : Dc cX6_overlap 45 (.invokevirtual 87) 3 48 := ⟨by decide +kernel, rfl⟩
theorem dX6_overlap_48 : Dj cX6_overlap 48 (.ifCond .eq 13) 3 51 (13) 61 := ⟨by decide +kernel, rfl, by decide⟩
theorem dX6_overlap_51 : Dc cX6_overlap 51 (.aload_n 0) 1 52 := ⟨by decide +kernel, rfl⟩
theorem dX6_overlap_52 : Dc cX6_overlap 52 (.iload_n 1) 1 53 := ⟨by decide +kernel, rfl⟩
theorem dX6_overlap_53 : Dc cX6_overlap 53 (.iload_n 2) 1 54 := ⟨by decide +kernel, rfl⟩
theorem dX6_overlap_54 : Dc cX6_overlap 54 (.iload_n 3) 1 55 := ⟨by decide +kernel, rfl⟩
theorem dX6_overlap_55 : Dc cX6_overlap 55 (.invokevirtual 77) 3 58 := ⟨by decide +kernel, rfl⟩
theorem dX6_overlap_58 : Dj cX6_overlap 58 (.goto 4) 3 61 (4) 62 := ⟨by decide +kernel, rfl, by decide⟩
theorem dX6_overlap_61 : Dc cX6_overlap 61 (.iconst 0) 1 62 := ⟨by decide +kernel, rfl⟩
theorem dX6_overlap_62 : Dc cX6_overlap 62 (.ireturn) 1 63 := ⟨by decide +kernel, rfl⟩
def F_X6_overlap (o : OM) (v1 : Int32) (v2 : Int32) (v3 : Int32) : Option (Int32 × OM) := bq (F_X6_isThere o v1) (fun r_1 => bd (fun (s_2 : Int32) => bd (fun (s_3 : Int32) => bn (F_X6_holds o s_3) (fun r_4 o_5 => bd (fun (s_6 : Int32) => some (s_6, o_5)) (fun k62 => if r_4 = 0 then (k62 ((0 : Int32))) else (bq (F_X6_overlapOf o_5 v1 v2 v3) (fun r_7 => k62 r_7))))) (fun k45 => if s_2 = 0 then (k45 ((1 : Int32))) else (bq (F_X6_isDegree o v3) (fun r_8 => if r_8 = 0 then (k45 ((2 : Int32))) else (k45 ((0 : Int32))))))) (fun k21 => bd (fun (_ : Unit) => k21 ((0 : Int32))) (fun k20 => if r_1 = 0 then (k20 ()) else (bq (F_X6_isThere o v2) (fun r_9 => if r_9 = 0 then (k20 ()) else (k21 ((1 : Int32))))))))
abbrev rmX6_overlap : Room := { frames := 5, cells := 0, slots := 0, locals := 123 }
set_option maxHeartbeats 4000000 in
set_option maxRecDepth 100000 in
theorem wX6_overlap {G : Gd} {p : Program} {l : Launch} {e : Env} {s : State} {m : MethodId} {args : Array Value} {below : List Frame} {meth : Method} {c : Code} {o : OM} {H : Heap} {L0 : List Loc} {ls : Array Slot} {r : Int32} {o9 : OM} {v1 : Int32} {v2 : Int32} {v3 : Int32} (C : Cx G RX6 cX6_overlap 5 (some .int) p s m args meth c)  (P : Hp G o s H L0) (hl : lv_has ls 5 [(0, .ref (rA G 19 0)), (1, .int v1), (2, .int v2), (3, .int v3)]) (hf : F_X6_overlap o v1 v2 v3 = some (r, o9)) : W p l e rmX6_overlap s m args below meth c H L0 0 0 (Qm G (some (.int r)) o9 rmX6_overlap below args s) (F0 m 0 ls []) := by
  unfold F_X6_overlap at hf
  refine r_aload_n C hl 0 rfl rfl dX6_overlap_0 ?_
  refine r_iload_n C hl 1 rfl rfl dX6_overlap_1 ?_
  refine r_qVi C P cf_X6_96 (rm := rmX6_isThere) 19 0 (fun _ _ => ⟨_, rfl⟩) rfl rfl rfl [.int v1] [] hf (fun _ h => ctX6_isThere l G o v1 h) ⟨rfl, rfl⟩ ⟨Nat.le_of_ble_eq_true rfl, Nat.le_of_ble_eq_true rfl⟩ ⟨Nat.le_of_ble_eq_true rfl, Nat.le_of_ble_eq_true rfl⟩ rfl rfl hl.1 (Nat.le_of_ble_eq_true rfl) dX6_overlap_2 (fun r_1 H1 L1 P hf => ?_)
  refine r_jn (fun k21 : Int32 → Option (Int32 × OM) => ∀ (s_2 : Int32) H1 L1 ls, Hp G o s H1 L1 → lv_has ls 5 [(0, .ref (rA G 19 0)), (1, .int v1), (2, .int v2), (3, .int v3)] → k21 s_2 = some (r, o9) → W p l e rmX6_overlap s m args below meth c H1 L1 0 0 (Qm G (some (.int r)) o9 rmX6_overlap below args s) (F0 m 21 ls [.int s_2])) hf ?_ (fun k21 j21 hf => ?_)
  · intro s_2 H1 L1 ls  P hl hf
    refine r_istore C [(4, .int s_2), (0, .ref (rA G 19 0)), (1, .int v1), (2, .int v2), (3, .int v3)] hl (by decide) rfl dX6_overlap_21 (fun ls hl => ?_)
    refine r_aload_n C hl 1 rfl rfl dX6_overlap_23 ?_
    refine r_iload C hl 0 rfl dX6_overlap_24 ?_
    refine r_jn (fun k45 : Int32 → Option (Int32 × OM) => ∀ (s_3 : Int32) H1 L1 ls, Hp G o s H1 L1 → lv_has ls 5 [(0, .ref (rA G 19 0)), (1, .int v1), (2, .int v2), (3, .int v3)] → k45 s_3 = some (r, o9) → W p l e rmX6_overlap s m args below meth c H1 L1 0 0 (Qm G (some (.int r)) o9 rmX6_overlap below args s) (F0 m 45 ls [.int s_3, .ref (rA G 19 0)])) hf ?_ (fun k45 j45 hf => ?_)
    · intro s_3 H1 L1 ls  P hl hf
      refine r_cVi C P cf_X6_87 (rm := rmX6_holds) 19 0 (fun _ _ => ⟨_, rfl⟩) rfl rfl rfl [.int s_3] [] hf (fun _ _ h => ctX6_holds l G o s_3 h) ⟨rfl, rfl⟩ ⟨Nat.le_of_ble_eq_true rfl, Nat.le_of_ble_eq_true rfl⟩ ⟨Nat.le_of_ble_eq_true rfl, Nat.le_of_ble_eq_true rfl⟩ rfl rfl hl.1 (Nat.le_of_ble_eq_true rfl) dX6_overlap_45 (fun r_4 o_5 H1 L1 P hf => ?_)
      refine r_jn (fun k62 : Int32 → Option (Int32 × OM) => ∀ (s_6 : Int32) H1 L1 ls, Hp G o_5 s H1 L1 → lv_has ls 5 [] → k62 s_6 = some (r, o9) → W p l e rmX6_overlap s m args below meth c H1 L1 0 0 (Qm G (some (.int r)) o9 rmX6_overlap below args s) (F0 m 62 ls [.int s_6])) hf ?_ (fun k62 j62 hf => ?_)
      · intro s_6 H1 L1 ls  P hl hf
        exact r_iret C P (rm := rmX6_overlap) ⟨rfl, rfl⟩ dX6_overlap_62 hf
      refine r_if_eq C dX6_overlap_48 hf (fun hf => ?_) (fun hf => ?_)
      · refine r_iconst C (v := 0) (by decide) dX6_overlap_61 ?_
        exact j62 ((0 : Int32)) _ _ _ P (lv_sub hl [] rfl) hf
      · refine r_aload_n C hl 0 rfl rfl dX6_overlap_51 ?_
        refine r_iload_n C hl 1 rfl rfl dX6_overlap_52 ?_
        refine r_iload_n C hl 2 rfl rfl dX6_overlap_53 ?_
        refine r_iload_n C hl 3 rfl rfl dX6_overlap_54 ?_
        refine r_qVi C P cf_X6_77 (rm := rmX6_overlapOf) 19 0 (fun _ _ => ⟨_, rfl⟩) rfl rfl rfl [.int v1, .int v2, .int v3] [] hf (fun _ h => ctX6_overlapOf l G o_5 v1 v2 v3 h) ⟨rfl, rfl⟩ ⟨Nat.le_of_ble_eq_true rfl, Nat.le_of_ble_eq_true rfl⟩ ⟨Nat.le_of_ble_eq_true rfl, Nat.le_of_ble_eq_true rfl⟩ rfl rfl hl.1 (Nat.le_of_ble_eq_true rfl) dX6_overlap_55 (fun r_7 H1 L1 P hf => ?_)
        refine r_goto C dX6_overlap_58 ?_
        exact j62 r_7 _ _ _ P (lv_sub hl [] rfl) hf
    refine r_if_ne C dX6_overlap_26 hf (fun hf => ?_) (fun hf => ?_)
    · refine r_iload_n C hl 4 rfl rfl dX6_overlap_33 ?_
      refine r_qSi C P cf_X6_102 (rm := rmX6_isDegree) [.int v3] [.ref (rA G 19 0)] hf (fun _ h => ctX6_isDegree l G o v3 h) ⟨rfl, rfl⟩ ⟨Nat.le_of_ble_eq_true rfl, Nat.le_of_ble_eq_true rfl⟩ ⟨Nat.le_of_ble_eq_true rfl, Nat.le_of_ble_eq_true rfl⟩ rfl rfl hl.1 (Nat.le_of_ble_eq_true rfl) dX6_overlap_34 (fun r_8 H1 L1 P hf => ?_)
      refine r_if_eq C dX6_overlap_37 hf (fun hf => ?_) (fun hf => ?_)
      · refine r_iconst C (v := 2) (by decide) dX6_overlap_44 ?_
        exact j45 ((2 : Int32)) _ _ _ P (lv_sub hl [1, 2, 3, 4] rfl) hf
      · refine r_iconst C (v := 0) (by decide) dX6_overlap_40 ?_
        refine r_goto C dX6_overlap_41 ?_
        exact j45 ((0 : Int32)) _ _ _ P (lv_sub hl [1, 2, 3, 4] rfl) hf
    · refine r_iconst C (v := 1) (by decide) dX6_overlap_29 ?_
      refine r_goto C dX6_overlap_30 ?_
      exact j45 ((1 : Int32)) _ _ _ P (lv_sub hl [1, 2, 3, 4] rfl) hf
  refine r_jn (fun k20 : Unit → Option (Int32 × OM) => ∀ H1 L1 ls, Hp G o s H1 L1 → lv_has ls 5 [(0, .ref (rA G 19 0)), (1, .int v1), (2, .int v2), (3, .int v3)] → k20 () = some (r, o9) → W p l e rmX6_overlap s m args below meth c H1 L1 0 0 (Qm G (some (.int r)) o9 rmX6_overlap below args s) (F0 m 20 ls [])) hf ?_ (fun k20 j20 hf => ?_)
  · intro  H1 L1 ls  P hl hf
    refine r_iconst C (v := 0) (by decide) dX6_overlap_20 ?_
    exact j21 ((0 : Int32)) _ _ _ P (lv_sub hl [0, 1, 2, 3] rfl) hf
  refine r_if_eq C dX6_overlap_5 hf (fun hf => ?_) (fun hf => ?_)
  · exact j20  _ _ _ P (lv_sub hl [0, 1, 2, 3] rfl) hf
  · refine r_aload_n C hl 0 rfl rfl dX6_overlap_8 ?_
    refine r_iload_n C hl 2 rfl rfl dX6_overlap_9 ?_
    refine r_qVi C P cf_X6_96 (rm := rmX6_isThere) 19 0 (fun _ _ => ⟨_, rfl⟩) rfl rfl rfl [.int v2] [] hf (fun _ h => ctX6_isThere l G o v2 h) ⟨rfl, rfl⟩ ⟨Nat.le_of_ble_eq_true rfl, Nat.le_of_ble_eq_true rfl⟩ ⟨Nat.le_of_ble_eq_true rfl, Nat.le_of_ble_eq_true rfl⟩ rfl rfl hl.1 (Nat.le_of_ble_eq_true rfl) dX6_overlap_10 (fun r_9 H1 L1 P hf => ?_)
    refine r_if_eq C dX6_overlap_13 hf (fun hf => ?_) (fun hf => ?_)
    · exact j20  _ _ _ P (lv_sub hl [0, 1, 2, 3] rfl) hf
    · refine r_iconst C (v := 1) (by decide) dX6_overlap_16 ?_
      refine r_goto C dX6_overlap_17 ?_
      exact j21 ((1 : Int32)) _ _ _ P (lv_sub hl [0, 1, 2, 3] rfl) hf
theorem ctX6_overlap (l : Launch) (G : Gd) (o : OM) (v1 : Int32) (v2 : Int32) (v3 : Int32)  {r : Int32} {o9 : OM} (hf : F_X6_overlap o v1 v2 v3 = some (r, o9)) : Ct l yX6_overlap cX6_overlap 5 (some .int) rmX6_overlap G [.ref (rA G 19 0), .int v1, .int v2, .int v3] o (some (.int r)) o9 := ct_of (by decide +kernel) (Nat.le_of_ble_eq_true rfl) (fun p e s m below meth c ls C P hl => wX6_overlap C  P hl hf)
theorem dX6_worst_0 : Dc cX6_worst 0 (.iconst (-1)) 1 1 := ⟨by decide +kernel, rfl⟩
theorem dX6_worst_1 : Dc cX6_worst 1 (.istore_n 3) 1 2 := ⟨by decide +kernel, rfl⟩
theorem dX6_worst_2 : Dc cX6_worst 2 (.iconst (-1)) 1 3 := ⟨by decide +kernel, rfl⟩
theorem dX6_worst_3 : Dc cX6_worst 3 (.istore 4) 2 5 := ⟨by decide +kernel, rfl⟩
theorem dX6_worst_5 : Dc cX6_worst 5 (.sipush (-400)) 3 8 := ⟨by decide +kernel, rfl⟩
theorem dX6_worst_8 : Dc cX6_worst 8 (.istore 5) 2 10 := ⟨by decide +kernel, rfl⟩
theorem dX6_worst_10 : Dc cX6_worst 10 (.iload 5) 2 12 := ⟨by decide +kernel, rfl⟩
theorem dX6_worst_12 : Dc cX6_worst 12 (.sipush 1500) 3 15 := ⟨by decide +kernel, rfl⟩
theorem dX6_worst_15 : Dj cX6_worst 15 (.if_icmp .gt 53) 3 18 (53) 68 := ⟨by decide +kernel, rfl, by decide⟩
theorem dX6_worst_18 : Dc cX6_worst 18 (.aload_n 0) 1 19 := ⟨by decide +kernel, rfl⟩
theorem dX6_worst_19 : Dc cX6_worst 19 (.iload_n 1) 1 20 := ⟨by decide +kernel, rfl⟩
theorem dX6_worst_20 : Dc cX6_worst 20 (.iload_n 2) 1 21 := ⟨by decide +kernel, rfl⟩
theorem dX6_worst_21 : Dc cX6_worst 21 (.iload 5) 2 23 := ⟨by decide +kernel, rfl⟩
theorem dX6_worst_23 : Dc cX6_worst 23 (.invokevirtual 77) 3 26 := ⟨by decide +kernel, rfl⟩
theorem dX6_worst_26 : Dc cX6_worst 26 (.istore 6) 2 28 := ⟨by decide +kernel, rfl⟩
theorem dX6_worst_28 : Dc cX6_worst 28 (.iload 6) 2 30 := ⟨by decide +kernel, rfl⟩
theorem dX6_worst_30 : Dc cX6_worst 30 (.iload 4) 2 32 := ⟨by decide +kernel, rfl⟩
theorem dX6_worst_32 : Dj cX6_worst 32 (.if_icmp .le 12) 3 35 (12) 44 := ⟨by decide +kernel, rfl, by decide⟩
theorem dX6_worst_35 : Dc cX6_worst 35 (.iload 5) 2 37 := ⟨by decide +kernel, rfl⟩
theorem dX6_worst_37 : Dc cX6_worst 37 (.sipush 10000) 3 40 := ⟨by decide +kernel, rfl⟩
theorem dX6_worst_40 : Dc cX6_worst 40 (.iadd) 1 41 := ⟨by decide +kernel, rfl⟩
theorem dX6_worst_41 : Dj cX6_worst 41 (.goto 4) 3 44 (4) 45 := ⟨by decide +kernel, rfl, by decide⟩
theorem dX6_worst_44 : Dc cX6_worst 44 (.iload_n 3) 1 45 := ⟨by decide +kernel, rfl⟩
theorem dX6_worst_45 : Dc cX6_worst 45 (.istore_n 3) 1 46 := ⟨by decide +kernel, rfl⟩
theorem dX6_worst_46 : Dc cX6_worst 46 (.iload 6) 2 48 := ⟨by decide +kernel, rfl⟩
theorem dX6_worst_48 : Dc cX6_worst 48 (.iload 4) 2 50 := ⟨by decide +kernel, rfl⟩
theorem dX6_worst_50 : Dj cX6_worst 50 (.if_icmp .le 8) 3 53 (8) 58 := ⟨by decide +kernel, rfl, by decide⟩
theorem dX6_worst_53 : Dc cX6_worst 53 (.iload 6) 2 55 := ⟨by decide +kernel, rfl⟩
theorem dX6_worst_55 : Dj cX6_worst 55 (.goto 5) 3 58 (5) 60 := ⟨by decide +kernel, rfl, by decide⟩
theorem dX6_worst_58 : Dc cX6_worst 58 (.iload 4) 2 60 := ⟨by decide +kernel, rfl⟩
theorem dX6_worst_60 : Dc cX6_worst 60 (.istore 4) 2 62 := ⟨by decide +kernel, rfl⟩
theorem dX6_worst_62 : Dc cX6_worst 62 (.iinc 5 100) 3 65 := ⟨by decide +kernel, rfl⟩
theorem dX6_worst_65 : Dj cX6_worst 65 (.goto (-55)) 3 68 (-55) 10 := ⟨by decide +kernel, rfl, by decide⟩
theorem dX6_worst_68 : Dc cX6_worst 68 (.iload_n 3) 1 69 := ⟨by decide +kernel, rfl⟩
theorem dX6_worst_69 : Dc cX6_worst 69 (.ireturn) 1 70 := ⟨by decide +kernel, rfl⟩
def LX6_worst_10 (k68 : Int32 → Option Int32) (o : OM) (v1 : Int32) (v2 : Int32) : Nat → Int32 → Int32 → Int32 → Option Int32
  | 0 => fun _ _ _ => none
  | n + 1 => fun v3_2 v4_3 v5_4 => if ((1500 : Int32)) < v5_4 then (k68 v3_2) else (bq (F_X6_overlapOf o v1 v2 v5_4) (fun r_5 => bd (fun (s_6 : Int32) => bd (fun (s_7 : Int32) => bd (v5_4 + (100 : Int32)) (fun v5_8 : Int32 => (LX6_worst_10 k68 o v1 v2 n) s_6 s_7 v5_8)) (fun k60 => if r_5 ≤ v4_3 then (k60 v4_3) else (k60 r_5))) (fun k45 => if r_5 ≤ v4_3 then (k45 v3_2) else (k45 (v5_4 + ((10000 : Int32)))))))
def F_X6_worst (o : OM) (v1 : Int32) (v2 : Int32) : Option Int32 := bd (fun (v3_1 : Int32) => some v3_1) (fun k68 => LX6_worst_10 k68 o v1 v2 FU ((-1 : Int32)) ((-1 : Int32)) ((-400 : Int32)))
abbrev rmX6_worst : Room := { frames := 5, cells := 0, slots := 0, locals := 123 }
set_option maxHeartbeats 4000000 in
set_option maxRecDepth 100000 in
theorem lX6_worst_10 {G : Gd} {p : Program} {l : Launch} {e : Env} {s : State} {m : MethodId} {args : Array Value} {below : List Frame} {meth : Method} {c : Code} {r : Int32} {o : OM} {v1 : Int32} {v2 : Int32} (C : Cx G RX6 cX6_worst 7 (some .int) p s m args meth c)  {k68 : Int32 → Option Int32} (j68 : ∀ (v3_1 : Int32) H1 L1 ls, Hp G o s H1 L1 → lv_has ls 7 [(3, .int v3_1)] → k68 v3_1 = some r → W p l e rmX6_worst s m args below meth c H1 L1 0 0 (Qm G (some (.int r)) o rmX6_worst below args s) (F0 m 68 ls [])) : ∀ (n : Nat) (v3_2 : Int32) (v4_3 : Int32) (v5_4 : Int32) H1 L1 ls, Hp G o s H1 L1 → lv_has ls 7 [(0, .ref (rA G 19 0)), (1, .int v1), (2, .int v2), (3, .int v3_2), (4, .int v4_3), (5, .int v5_4)] → LX6_worst_10 k68 o v1 v2 n v3_2 v4_3 v5_4 = some r → W p l e rmX6_worst s m args below meth c H1 L1 0 0 (Qm G (some (.int r)) o rmX6_worst below args s) (F0 m 10 ls []) := by
  intro n
  induction n with
  | zero =>
    intro v3_2 v4_3 v5_4 H1 L1 ls P hl hf
    exact nomatch hf
  | succ n ih =>
    intro v3_2 v4_3 v5_4 H1 L1 ls P hl hf
    rw [LX6_worst_10.eq_2] at hf
    refine r_iload C hl 5 rfl dX6_worst_10 ?_
    refine r_sipush C (v := 1500) (by decide) dX6_worst_12 ?_
    refine r_icmp_gt C dX6_worst_15 hf (fun hf => ?_) (fun hf => ?_)
    · exact j68 v3_2 _ _ _ P (lv_sub hl [3] rfl) hf
    · refine r_aload_n C hl 0 rfl rfl dX6_worst_18 ?_
      refine r_iload_n C hl 1 rfl rfl dX6_worst_19 ?_
      refine r_iload_n C hl 2 rfl rfl dX6_worst_20 ?_
      refine r_iload C hl 5 rfl dX6_worst_21 ?_
      refine r_qVi C P cf_X6_77 (rm := rmX6_overlapOf) 19 0 (fun _ _ => ⟨_, rfl⟩) rfl rfl rfl [.int v1, .int v2, .int v5_4] [] hf (fun _ h => ctX6_overlapOf l G o v1 v2 v5_4 h) ⟨rfl, rfl⟩ ⟨Nat.le_of_ble_eq_true rfl, Nat.le_of_ble_eq_true rfl⟩ ⟨Nat.le_of_ble_eq_true rfl, Nat.le_of_ble_eq_true rfl⟩ rfl rfl hl.1 (Nat.le_of_ble_eq_true rfl) dX6_worst_23 (fun r_5 H1 L1 P hf => ?_)
      refine r_istore C [(6, .int r_5), (0, .ref (rA G 19 0)), (1, .int v1), (2, .int v2), (3, .int v3_2), (4, .int v4_3), (5, .int v5_4)] hl (by decide) rfl dX6_worst_26 (fun ls hl => ?_)
      refine r_iload C hl 0 rfl dX6_worst_28 ?_
      refine r_iload C hl 5 rfl dX6_worst_30 ?_
      refine r_jn (fun k45 : Int32 → Option Int32 => ∀ (s_6 : Int32) H1 L1 ls, Hp G o s H1 L1 → lv_has ls 7 [(0, .ref (rA G 19 0)), (1, .int v1), (2, .int v2), (4, .int v4_3), (5, .int v5_4), (6, .int r_5)] → k45 s_6 = some r → W p l e rmX6_worst s m args below meth c H1 L1 0 0 (Qm G (some (.int r)) o rmX6_worst below args s) (F0 m 45 ls [.int s_6])) hf ?_ (fun k45 j45 hf => ?_)
      · intro s_6 H1 L1 ls  P hl hf
        refine r_istore_n C [(3, .int s_6), (0, .ref (rA G 19 0)), (1, .int v1), (2, .int v2), (4, .int v4_3), (5, .int v5_4), (6, .int r_5)] hl (by decide) rfl rfl dX6_worst_45 (fun ls hl => ?_)
        refine r_iload C hl 6 rfl dX6_worst_46 ?_
        refine r_iload C hl 4 rfl dX6_worst_48 ?_
        refine r_jn (fun k60 : Int32 → Option Int32 => ∀ (s_7 : Int32) H1 L1 ls, Hp G o s H1 L1 → lv_has ls 7 [(0, .ref (rA G 19 0)), (1, .int v1), (2, .int v2), (3, .int s_6), (5, .int v5_4)] → k60 s_7 = some r → W p l e rmX6_worst s m args below meth c H1 L1 0 0 (Qm G (some (.int r)) o rmX6_worst below args s) (F0 m 60 ls [.int s_7])) hf ?_ (fun k60 j60 hf => ?_)
        · intro s_7 H1 L1 ls  P hl hf
          refine r_istore C [(4, .int s_7), (0, .ref (rA G 19 0)), (1, .int v1), (2, .int v2), (3, .int s_6), (5, .int v5_4)] hl (by decide) rfl dX6_worst_60 (fun ls hl => ?_)
          refine r_iinc C (fun v5_8 => [(5, .int v5_8), (4, .int s_7), (0, .ref (rA G 19 0)), (1, .int v1), (2, .int v2), (3, .int s_6)]) (w := 100) 5 hl rfl (by decide) (by decide) (fun _ => rfl) dX6_worst_62 hf (fun v5_8 ls hl hf => ?_)
          refine r_goto C dX6_worst_65 ?_
          exact ih s_6 s_7 v5_8 _ _ _ P (lv_sub hl [2, 3, 4, 5, 1, 0] rfl) hf
        refine r_icmp_le C dX6_worst_50 hf (fun hf => ?_) (fun hf => ?_)
        · refine r_iload C hl 4 rfl dX6_worst_58 ?_
          exact j60 v4_3 _ _ _ P (lv_sub hl [1, 2, 3, 0, 5] rfl) hf
        · refine r_iload C hl 6 rfl dX6_worst_53 ?_
          refine r_goto C dX6_worst_55 ?_
          exact j60 r_5 _ _ _ P (lv_sub hl [1, 2, 3, 0, 5] rfl) hf
      refine r_icmp_le C dX6_worst_32 hf (fun hf => ?_) (fun hf => ?_)
      · refine r_iload_n C hl 4 rfl rfl dX6_worst_44 ?_
        exact j45 v3_2 _ _ _ P (lv_sub hl [1, 2, 3, 5, 6, 0] rfl) hf
      · refine r_iload C hl 6 rfl dX6_worst_35 ?_
        refine r_sipush C (v := 10000) (by decide) dX6_worst_37 ?_
        refine r_iadd2 C dX6_worst_40 ?_
        refine r_goto C dX6_worst_41 ?_
        exact j45 (v5_4 + ((10000 : Int32))) _ _ _ P (lv_sub hl [1, 2, 3, 5, 6, 0] rfl) hf
set_option maxHeartbeats 4000000 in
set_option maxRecDepth 100000 in
theorem wX6_worst {G : Gd} {p : Program} {l : Launch} {e : Env} {s : State} {m : MethodId} {args : Array Value} {below : List Frame} {meth : Method} {c : Code} {o : OM} {H : Heap} {L0 : List Loc} {ls : Array Slot} {r : Int32} {v1 : Int32} {v2 : Int32} (C : Cx G RX6 cX6_worst 7 (some .int) p s m args meth c)  (P : Hp G o s H L0) (hl : lv_has ls 7 [(0, .ref (rA G 19 0)), (1, .int v1), (2, .int v2)]) (hf : F_X6_worst o v1 v2 = some r) : W p l e rmX6_worst s m args below meth c H L0 0 0 (Qm G (some (.int r)) o rmX6_worst below args s) (F0 m 0 ls []) := by
  unfold F_X6_worst at hf
  refine r_iconst C (v := -1) (by decide) dX6_worst_0 ?_
  refine r_istore_n C [(3, .int ((-1 : Int32))), (0, .ref (rA G 19 0)), (1, .int v1), (2, .int v2)] hl (by decide) rfl rfl dX6_worst_1 (fun ls hl => ?_)
  refine r_iconst C (v := -1) (by decide) dX6_worst_2 ?_
  refine r_istore C [(4, .int ((-1 : Int32))), (3, .int ((-1 : Int32))), (0, .ref (rA G 19 0)), (1, .int v1), (2, .int v2)] hl (by decide) rfl dX6_worst_3 (fun ls hl => ?_)
  refine r_sipush C (v := -400) (by decide) dX6_worst_5 ?_
  refine r_istore C [(5, .int ((-400 : Int32))), (4, .int ((-1 : Int32))), (3, .int ((-1 : Int32))), (0, .ref (rA G 19 0)), (1, .int v1), (2, .int v2)] hl (by decide) rfl dX6_worst_8 (fun ls hl => ?_)
  refine r_jn (fun k68 : Int32 → Option Int32 => ∀ (v3_1 : Int32) H1 L1 ls, Hp G o s H1 L1 → lv_has ls 7 [(3, .int v3_1)] → k68 v3_1 = some r → W p l e rmX6_worst s m args below meth c H1 L1 0 0 (Qm G (some (.int r)) o rmX6_worst below args s) (F0 m 68 ls [])) hf ?_ (fun k68 j68 hf => ?_)
  · intro v3_1 H1 L1 ls  P hl hf
    refine r_iload_n C hl 0 rfl rfl dX6_worst_68 ?_
    exact q_iret C P (rm := rmX6_worst) ⟨rfl, rfl⟩ dX6_worst_69 hf
  exact lX6_worst_10 C  j68 FU ((-1 : Int32)) ((-1 : Int32)) ((-400 : Int32)) _ _ _ P (lv_sub hl [3, 4, 5, 2, 1, 0] rfl) hf
theorem ctX6_worst (l : Launch) (G : Gd) (o : OM) (v1 : Int32) (v2 : Int32)  {r : Int32} (hf : F_X6_worst o v1 v2 = some r) : Ct l yX6_worst cX6_worst 7 (some .int) rmX6_worst G [.ref (rA G 19 0), .int v1, .int v2] o (some (.int r)) o := ct_of (by decide +kernel) (Nat.le_of_ble_eq_true rfl) (fun p e s m below meth c ls C P hl => wX6_worst C  P hl hf)
theorem cf_X6_200 : CallF false RX6 200 yX6_worst cX6_worst 7 (some .int) 2 := ⟨wd_1202, (by rw [if_neg (by decide)]; exact ⟨wd_1204, wd_59⟩), wd_71, wd_1205, by decide, by decide +kernel⟩
theorem dX6_worstDegree_0 : Dc cX6_worstDegree 0 (.aload_n 0) 1 1 := ⟨by decide +kernel, rfl⟩
theorem dX6_worstDegree_1 : Dc cX6_worstDegree 1 (.aload_n 0) 1 2 := ⟨by decide +kernel, rfl⟩
theorem dX6_worstDegree_2 : Dc cX6_worstDegree 2 (.iload_n 1) 1 3 := ⟨by decide +kernel, rfl⟩
theorem dX6_worstDegree_3 : Dc cX6_worstDegree 3 (.invokevirtual 96) 3 6 := ⟨by decide +kernel, rfl⟩
theorem dX6_worstDegree_6 : Dj cX6_worstDegree 6 (.ifCond .eq 15) 3 9 (15) 21 := ⟨by decide +kernel, rfl, by decide⟩
theorem dX6_worstDegree_9 : Dc cX6_worstDegree 9 (.aload_n 0) 1 10 := ⟨by decide +kernel, rfl⟩
theorem dX6_worstDegree_10 : Dc cX6_worstDegree 10 (.iload_n 2) 1 11 := ⟨by decide +kernel, rfl⟩
theorem dX6_worstDegree_11 : Dc cX6_worstDegree 11 (.invokevirtual 96) 3 14 := ⟨by decide +kernel, rfl⟩
theorem dX6_worstDegree_14 : Dj cX6_worstDegree 14 (.ifCond .eq 7) 3 17 (7) 21 := ⟨by decide +kernel, rfl, by decide⟩
theorem dX6_worstDegree_17 : Dc cX6_worstDegree 17 (.iconst 0) 1 18 := ⟨by decide +kernel, rfl⟩
theorem dX6_worstDegree_18 : Dj cX6_worstDegree 18 (.goto 4) 3 21 (4) 22 := ⟨by decide +kernel, rfl, by decide⟩
theorem dX6_worstDegree_21 : Dc cX6_worstDegree 21 (.iconst 1) 1 22 := ⟨by decide +kernel, rfl⟩
theorem dX6_worstDegree_22 : Dc cX6_worstDegree 22 (.invokevirtual 87) 3 25 := ⟨by decide +kernel, rfl⟩
theorem dX6_worstDegree_25 : Dj cX6_worstDegree 25 (.ifCond .eq 12) 3 28 (12) 37 := ⟨by decide +kernel, rfl, by decide⟩
theorem dX6_worstDegree_28 : Dc cX6_worstDegree 28 (.aload_n 0) 1 29 := ⟨by decide +kernel, rfl⟩
theorem dX6_worstDegree_29 : Dc cX6_worstDegree 29 (.iload_n 1) 1 30 := ⟨by decide +kernel, rfl⟩
theorem dX6_worstDegree_30 : Dc cX6_worstDegree 30 (.iload_n 2) 1 31 := ⟨by decide +kernel, rfl⟩
theorem dX6_worstDegree_31 : Dc cX6_worstDegree 31 (.invokevirtual 200) 3 34 := ⟨by decide +kernel, rfl⟩
theorem dX6_worstDegree_34 : Dj cX6_worstDegree 34 (.goto 4) 3 37 (4) 38 := ⟨by decide +kernel, rfl, by decide⟩
theorem dX6_worstDegree_37 : Dc cX6_worstDegree 37 (.iconst 0) 1 38 := ⟨by decide +kernel, rfl⟩
theorem dX6_worstDegree_38 : Dc cX6_worstDegree 38 (.ireturn) 1 39 := ⟨by decide +kernel, rfl⟩
def F_X6_worstDegree (o : OM) (v1 : Int32) (v2 : Int32) : Option (Int32 × OM) := bq (F_X6_isThere o v1) (fun r_1 => bd (fun (s_2 : Int32) => bn (F_X6_holds o s_2) (fun r_3 o_4 => bd (fun (s_5 : Int32) => some (s_5, o_4)) (fun k38 => if r_3 = 0 then (k38 ((0 : Int32))) else (bq (F_X6_worst o_4 v1 v2) (fun r_6 => k38 r_6))))) (fun k22 => if r_1 = 0 then (k22 ((1 : Int32))) else (bq (F_X6_isThere o v2) (fun r_7 => if r_7 = 0 then (k22 ((1 : Int32))) else (k22 ((0 : Int32)))))))
abbrev rmX6_worstDegree : Room := { frames := 6, cells := 0, slots := 0, locals := 149 }
set_option maxHeartbeats 4000000 in
set_option maxRecDepth 100000 in
theorem wX6_worstDegree {G : Gd} {p : Program} {l : Launch} {e : Env} {s : State} {m : MethodId} {args : Array Value} {below : List Frame} {meth : Method} {c : Code} {o : OM} {H : Heap} {L0 : List Loc} {ls : Array Slot} {r : Int32} {o9 : OM} {v1 : Int32} {v2 : Int32} (C : Cx G RX6 cX6_worstDegree 3 (some .int) p s m args meth c)  (P : Hp G o s H L0) (hl : lv_has ls 3 [(0, .ref (rA G 19 0)), (1, .int v1), (2, .int v2)]) (hf : F_X6_worstDegree o v1 v2 = some (r, o9)) : W p l e rmX6_worstDegree s m args below meth c H L0 0 0 (Qm G (some (.int r)) o9 rmX6_worstDegree below args s) (F0 m 0 ls []) := by
  unfold F_X6_worstDegree at hf
  refine r_aload_n C hl 0 rfl rfl dX6_worstDegree_0 ?_
  refine r_aload_n C hl 0 rfl rfl dX6_worstDegree_1 ?_
  refine r_iload_n C hl 1 rfl rfl dX6_worstDegree_2 ?_
  refine r_qVi C P cf_X6_96 (rm := rmX6_isThere) 19 0 (fun _ _ => ⟨_, rfl⟩) rfl rfl rfl [.int v1] [.ref (rA G 19 0)] hf (fun _ h => ctX6_isThere l G o v1 h) ⟨rfl, rfl⟩ ⟨Nat.le_of_ble_eq_true rfl, Nat.le_of_ble_eq_true rfl⟩ ⟨Nat.le_of_ble_eq_true rfl, Nat.le_of_ble_eq_true rfl⟩ rfl rfl hl.1 (Nat.le_of_ble_eq_true rfl) dX6_worstDegree_3 (fun r_1 H1 L1 P hf => ?_)
  refine r_jn (fun k22 : Int32 → Option (Int32 × OM) => ∀ (s_2 : Int32) H1 L1 ls, Hp G o s H1 L1 → lv_has ls 3 [(0, .ref (rA G 19 0)), (1, .int v1), (2, .int v2)] → k22 s_2 = some (r, o9) → W p l e rmX6_worstDegree s m args below meth c H1 L1 0 0 (Qm G (some (.int r)) o9 rmX6_worstDegree below args s) (F0 m 22 ls [.int s_2, .ref (rA G 19 0)])) hf ?_ (fun k22 j22 hf => ?_)
  · intro s_2 H1 L1 ls  P hl hf
    refine r_cVi C P cf_X6_87 (rm := rmX6_holds) 19 0 (fun _ _ => ⟨_, rfl⟩) rfl rfl rfl [.int s_2] [] hf (fun _ _ h => ctX6_holds l G o s_2 h) ⟨rfl, rfl⟩ ⟨Nat.le_of_ble_eq_true rfl, Nat.le_of_ble_eq_true rfl⟩ ⟨Nat.le_of_ble_eq_true rfl, Nat.le_of_ble_eq_true rfl⟩ rfl rfl hl.1 (Nat.le_of_ble_eq_true rfl) dX6_worstDegree_22 (fun r_3 o_4 H1 L1 P hf => ?_)
    refine r_jn (fun k38 : Int32 → Option (Int32 × OM) => ∀ (s_5 : Int32) H1 L1 ls, Hp G o_4 s H1 L1 → lv_has ls 3 [] → k38 s_5 = some (r, o9) → W p l e rmX6_worstDegree s m args below meth c H1 L1 0 0 (Qm G (some (.int r)) o9 rmX6_worstDegree below args s) (F0 m 38 ls [.int s_5])) hf ?_ (fun k38 j38 hf => ?_)
    · intro s_5 H1 L1 ls  P hl hf
      exact r_iret C P (rm := rmX6_worstDegree) ⟨rfl, rfl⟩ dX6_worstDegree_38 hf
    refine r_if_eq C dX6_worstDegree_25 hf (fun hf => ?_) (fun hf => ?_)
    · refine r_iconst C (v := 0) (by decide) dX6_worstDegree_37 ?_
      exact j38 ((0 : Int32)) _ _ _ P (lv_sub hl [] rfl) hf
    · refine r_aload_n C hl 0 rfl rfl dX6_worstDegree_28 ?_
      refine r_iload_n C hl 1 rfl rfl dX6_worstDegree_29 ?_
      refine r_iload_n C hl 2 rfl rfl dX6_worstDegree_30 ?_
      refine r_qVi C P cf_X6_200 (rm := rmX6_worst) 19 0 (fun _ _ => ⟨_, rfl⟩) rfl rfl rfl [.int v1, .int v2] [] hf (fun _ h => ctX6_worst l G o_4 v1 v2 h) ⟨rfl, rfl⟩ ⟨Nat.le_of_ble_eq_true rfl, Nat.le_of_ble_eq_true rfl⟩ ⟨Nat.le_of_ble_eq_true rfl, Nat.le_of_ble_eq_true rfl⟩ rfl rfl hl.1 (Nat.le_of_ble_eq_true rfl) dX6_worstDegree_31 (fun r_6 H1 L1 P hf => ?_)
      refine r_goto C dX6_worstDegree_34 ?_
      exact j38 r_6 _ _ _ P (lv_sub hl [] rfl) hf
  refine r_if_eq C dX6_worstDegree_6 hf (fun hf => ?_) (fun hf => ?_)
  · refine r_iconst C (v := 1) (by decide) dX6_worstDegree_21 ?_
    exact j22 ((1 : Int32)) _ _ _ P (lv_sub hl [0, 1, 2] rfl) hf
  · refine r_aload_n C hl 0 rfl rfl dX6_worstDegree_9 ?_
    refine r_iload_n C hl 2 rfl rfl dX6_worstDegree_10 ?_
    refine r_qVi C P cf_X6_96 (rm := rmX6_isThere) 19 0 (fun _ _ => ⟨_, rfl⟩) rfl rfl rfl [.int v2] [.ref (rA G 19 0)] hf (fun _ h => ctX6_isThere l G o v2 h) ⟨rfl, rfl⟩ ⟨Nat.le_of_ble_eq_true rfl, Nat.le_of_ble_eq_true rfl⟩ ⟨Nat.le_of_ble_eq_true rfl, Nat.le_of_ble_eq_true rfl⟩ rfl rfl hl.1 (Nat.le_of_ble_eq_true rfl) dX6_worstDegree_11 (fun r_7 H1 L1 P hf => ?_)
    refine r_if_eq C dX6_worstDegree_14 hf (fun hf => ?_) (fun hf => ?_)
    · refine r_iconst C (v := 1) (by decide) dX6_worstDegree_21 ?_
      exact j22 ((1 : Int32)) _ _ _ P (lv_sub hl [0, 1, 2] rfl) hf
    · refine r_iconst C (v := 0) (by decide) dX6_worstDegree_17 ?_
      refine r_goto C dX6_worstDegree_18 ?_
      exact j22 ((0 : Int32)) _ _ _ P (lv_sub hl [0, 1, 2] rfl) hf
theorem ctX6_worstDegree (l : Launch) (G : Gd) (o : OM) (v1 : Int32) (v2 : Int32)  {r : Int32} {o9 : OM} (hf : F_X6_worstDegree o v1 v2 = some (r, o9)) : Ct l yX6_worstDegree cX6_worstDegree 3 (some .int) rmX6_worstDegree G [.ref (rA G 19 0), .int v1, .int v2] o (some (.int r)) o9 := ct_of (by decide +kernel) (Nat.le_of_ble_eq_true rfl) (fun p e s m below meth c ls C P hl => wX6_worstDegree C  P hl hf)
theorem dX6_yearsUntilVoid_0 : Dc cX6_yearsUntilVoid 0 (.aload_n 0) 1 1 := ⟨by decide +kernel, rfl⟩
theorem dX6_yearsUntilVoid_1 : Dc cX6_yearsUntilVoid 1 (.iload_n 1) 1 2 := ⟨by decide +kernel, rfl⟩
theorem dX6_yearsUntilVoid_2 : Dc cX6_yearsUntilVoid 2 (.iconst 5) 1 3 := ⟨by decide +kernel, rfl⟩
theorem dX6_yearsUntilVoid_3 : Dc cX6_yearsUntilVoid 3 (.invokevirtual 37) 3 6 := ⟨by decide +kernel, rfl⟩
theorem dX6_yearsUntilVoid_6 : Dc cX6_yearsUntilVoid 6 (.iconst (-1)) 1 7 := ⟨by decide +kernel, rfl⟩
theorem dX6_yearsUntilVoid_7 : Dj cX6_yearsUntilVoid 7 (.if_icmp .ne 5) 3 10 (5) 12 := ⟨by decide +kernel, rfl, by decide⟩
theorem dX6_yearsUntilVoid_10 : Dc cX6_yearsUntilVoid 10 (.iconst (-1)) 1 11 := ⟨by decide +kernel, rfl⟩
theorem dX6_yearsUntilVoid_11 : Dc cX6_yearsUntilVoid 11 (.ireturn) 1 12 := ⟨by decide +kernel, rfl⟩
theorem dX6_yearsUntilVoid_12 : Dc cX6_yearsUntilVoid 12 (.aload_n 0) 1 13 := ⟨by decide +kernel, rfl⟩
theorem dX6_yearsUntilVoid_13 : Dc cX6_yearsUntilVoid 13 (.iload_n 1) 1 14 := ⟨by decide +kernel, rfl⟩
theorem dX6_yearsUntilVoid_14 : Dc cX6_yearsUntilVoid 14 (.iconst 4) 1 15 := ⟨by decide +kernel, rfl⟩
theorem dX6_yearsUntilVoid_15 : Dc cX6_yearsUntilVoid 15 (.invokevirtual 37) 3 18 := ⟨by decide +kernel, rfl⟩
theorem dX6_yearsUntilVoid_18 : Dc cX6_yearsUntilVoid 18 (.aload_n 0) 1 19 := ⟨by decide +kernel, rfl⟩
theorem dX6_yearsUntilVoid_19 : Dc cX6_yearsUntilVoid 19 (.iload_n 1) 1 20 := ⟨by decide +kernel, rfl⟩
theorem dX6_yearsUntilVoid_20 : Dc cX6_yearsUntilVoid 20 (.bipush 6) 2 22 := ⟨by decide +kernel, rfl⟩
theorem dX6_yearsUntilVoid_22 : Dc cX6_yearsUntilVoid 22 (.invokevirtual 37) 3 25 := ⟨by decide +kernel, rfl⟩
theorem dX6_yearsUntilVoid_25 : Dc cX6_yearsUntilVoid 25 (.isub) 1 26 := ⟨by decide +kernel, rfl⟩
theorem dX6_yearsUntilVoid_26 : Dc cX6_yearsUntilVoid 26 (.istore_n 2) 1 27 := ⟨by decide +kernel, rfl⟩
theorem dX6_yearsUntilVoid_27 : Dc cX6_yearsUntilVoid 27 (.iconst 0) 1 28 := ⟨by decide +kernel, rfl⟩
theorem dX6_yearsUntilVoid_28 : Dc cX6_yearsUntilVoid 28 (.istore_n 3) 1 29 := ⟨by decide +kernel, rfl⟩
theorem dX6_yearsUntilVoid_29 : Dc cX6_yearsUntilVoid 29 (.iload_n 3) 1 30 := ⟨by decide +kernel, rfl⟩
theorem dX6_yearsUntilVoid_30 : Dc cX6_yearsUntilVoid 30 (.bipush 50) 2 32 := ⟨by decide +kernel, rfl⟩
theorem dX6_yearsUntilVoid_32 : Dj cX6_yearsUntilVoid 32 (.if_icmp .gt 50) 3 35 (50) 82 := ⟨by decide +kernel, rfl, by decide⟩
theorem dX6_yearsUntilVoid_35 : Dc cX6_yearsUntilVoid 35 (.iload_n 2) 1 36 := ⟨by decide +kernel, rfl⟩
theorem dX6_yearsUntilVoid_36 : Dc cX6_yearsUntilVoid 36 (.aload_n 0) 1 37 := ⟨by decide +kernel, rfl⟩
theorem dX6_yearsUntilVoid_37 : Dc cX6_yearsUntilVoid 37 (.getfield 7) 3 40 := ⟨by decide +kernel, rfl⟩
theorem dX6_yearsUntilVoid_40 : Dc cX6_yearsUntilVoid 40 (.sipush 241) 3 43 := ⟨by decide +kernel, rfl⟩
theorem dX6_yearsUntilVoid_43 : Dc cX6_yearsUntilVoid 43 (.iaload) 1 44 := ⟨by decide +kernel, rfl⟩
theorem dX6_yearsUntilVoid_44 : Dj cX6_yearsUntilVoid 44 (.if_icmp .gt 38) 3 47 (38) 82 := ⟨by decide +kernel, rfl, by decide⟩
theorem dX6_yearsUntilVoid_47 : Dc cX6_yearsUntilVoid 47 (.iload_n 2) 1 48 := ⟨by decide +kernel, rfl⟩
theorem dX6_yearsUntilVoid_48 : Dc cX6_yearsUntilVoid 48 (.aload_n 0) 1 49 := ⟨by decide +kernel, rfl⟩
theorem dX6_yearsUntilVoid_49 : Dc cX6_yearsUntilVoid 49 (.getfield 7) 3 52 := ⟨by decide +kernel, rfl⟩
theorem dX6_yearsUntilVoid_52 : Dc cX6_yearsUntilVoid 52 (.sipush 235) 3 55 := ⟨by decide +kernel, rfl⟩
theorem dX6_yearsUntilVoid_55 : Dc cX6_yearsUntilVoid 55 (.aload_n 0) 1 56 := ⟨by decide +kernel, rfl⟩
theorem dX6_yearsUntilVoid_56 : Dc cX6_yearsUntilVoid 56 (.iload_n 1) 1 57 := ⟨by decide +kernel, rfl⟩
theorem dX6_yearsUntilVoid_57 : Dc cX6_yearsUntilVoid 57 (.iconst 2) 1 58 := ⟨by decide +kernel, rfl⟩
theorem dX6_yearsUntilVoid_58 : Dc cX6_yearsUntilVoid 58 (.invokevirtual 37) 3 61 := ⟨by decide +kernel, rfl⟩
theorem dX6_yearsUntilVoid_61 : Dc cX6_yearsUntilVoid 61 (.iadd) 1 62 := ⟨by decide +kernel, rfl⟩
theorem dX6_yearsUntilVoid_62 : Dc cX6_yearsUntilVoid 62 (.iaload) 1 63 := ⟨by decide +kernel, rfl⟩
theorem dX6_yearsUntilVoid_63 : Dc cX6_yearsUntilVoid 63 (.aload_n 0) 1 64 := ⟨by decide +kernel, rfl⟩
theorem dX6_yearsUntilVoid_64 : Dc cX6_yearsUntilVoid 64 (.iload_n 1) 1 65 := ⟨by decide +kernel, rfl⟩
theorem dX6_yearsUntilVoid_65 : Dc cX6_yearsUntilVoid 65 (.iconst 3) 1 66 := ⟨by decide +kernel, rfl⟩
theorem dX6_yearsUntilVoid_66 : Dc cX6_yearsUntilVoid 66 (.invokevirtual 37) 3 69 := ⟨by decide +kernel, rfl⟩
theorem dX6_yearsUntilVoid_69 : Dc cX6_yearsUntilVoid 69 (.iload_n 3) 1 70 := ⟨by decide +kernel, rfl⟩
theorem dX6_yearsUntilVoid_70 : Dc cX6_yearsUntilVoid 70 (.iadd) 1 71 := ⟨by decide +kernel, rfl⟩
theorem dX6_yearsUntilVoid_71 : Dc cX6_yearsUntilVoid 71 (.iconst 1) 1 72 := ⟨by decide +kernel, rfl⟩
theorem dX6_yearsUntilVoid_72 : Dc cX6_yearsUntilVoid 72 (.iadd) 1 73 := ⟨by decide +kernel, rfl⟩
theorem dX6_yearsUntilVoid_73 : Dc cX6_yearsUntilVoid 73 (.idiv) 1 74 := ⟨by decide +kernel, rfl⟩
theorem dX6_yearsUntilVoid_74 : Dc cX6_yearsUntilVoid 74 (.iadd) 1 75 := ⟨by decide +kernel, rfl⟩
theorem dX6_yearsUntilVoid_75 : Dc cX6_yearsUntilVoid 75 (.istore_n 2) 1 76 := ⟨by decide +kernel, rfl⟩
theorem dX6_yearsUntilVoid_76 : Dc cX6_yearsUntilVoid 76 (.iinc 3 1) 3 79 := ⟨by decide +kernel, rfl⟩
theorem dX6_yearsUntilVoid_79 : Dj cX6_yearsUntilVoid 79 (.goto (-50)) 3 82 (-50) 29 := ⟨by decide +kernel, rfl, by decide⟩
theorem dX6_yearsUntilVoid_82 : Dc cX6_yearsUntilVoid 82 (.iload_n 3) 1 83 := ⟨by decide +kernel, rfl⟩
theorem dX6_yearsUntilVoid_83 : Dc cX6_yearsUntilVoid 83 (.bipush 50) 2 85 := ⟨by decide +kernel, rfl⟩
theorem dX6_yearsUntilVoid_85 : Dj cX6_yearsUntilVoid 85 (.if_icmp .le 7) 3 88 (7) 92 := ⟨by decide +kernel, rfl, by decide⟩
theorem dX6_yearsUntilVoid_88 : Dc cX6_yearsUntilVoid 88 (.iconst (-1)) 1 89 := ⟨by decide +kernel, rfl⟩
theorem dX6_yearsUntilVoid_89 : Dj cX6_yearsUntilVoid 89 (.goto 4) 3 92 (4) 93 := ⟨by decide +kernel, rfl, by decide⟩
theorem dX6_yearsUntilVoid_92 : Dc cX6_yearsUntilVoid 92 (.iload_n 3) 1 93 := ⟨by decide +kernel, rfl⟩
theorem dX6_yearsUntilVoid_93 : Dc cX6_yearsUntilVoid 93 (.ireturn) 1 94 := ⟨by decide +kernel, rfl⟩
def LX6_yearsUntilVoid_29 (k82 : Int32 → Option Int32) (o : OM) (v1 : Int32) : Nat → Int32 → Int32 → Option Int32
  | 0 => fun _ _ => none
  | n + 1 => fun v2_7 v3_8 => if ((50 : Int32)) < v3_8 then (k82 v3_8) else (grd (inB ((241 : Int32)) 244) (if (rd o 20 0 ((241 : Int32)).toNatClampNeg) < v2_7 then (k82 v3_8) else (bq (F_X6_get o v1 ((2 : Int32))) (fun r_9 => grd (inB (((235 : Int32)) + r_9) 244) (bq (F_X6_get o v1 ((3 : Int32))) (fun r_10 => grd (decide (¬ ((r_10 + v3_8) + ((1 : Int32))) = 0)) (bd (v2_7 + ((rd o 20 0 (((235 : Int32)) + r_9).toNatClampNeg) / ((r_10 + v3_8) + ((1 : Int32))))) (fun v2_11 : Int32 => bd (v3_8 + (1 : Int32)) (fun v3_12 : Int32 => (LX6_yearsUntilVoid_29 k82 o v1 n) v2_11 v3_12)))))))))
def F_X6_yearsUntilVoid (o : OM) (v1 : Int32) : Option Int32 := bq (F_X6_get o v1 ((5 : Int32))) (fun r_1 => if r_1 = ((-1 : Int32)) then (some ((-1 : Int32))) else (bq (F_X6_get o v1 ((4 : Int32))) (fun r_2 => bq (F_X6_get o v1 ((6 : Int32))) (fun r_3 => bd (r_2 - r_3) (fun v2_4 : Int32 => bd (fun (v3_5 : Int32) => bd (fun (s_6 : Int32) => some s_6) (fun k93 => if v3_5 ≤ ((50 : Int32)) then (k93 v3_5) else (k93 ((-1 : Int32))))) (fun k82 => LX6_yearsUntilVoid_29 k82 o v1 FU v2_4 ((0 : Int32))))))))
abbrev rmX6_yearsUntilVoid : Room := { frames := 2, cells := 0, slots := 0, locals := 43 }
set_option maxHeartbeats 4000000 in
set_option maxRecDepth 100000 in
theorem lX6_yearsUntilVoid_29 {G : Gd} {p : Program} {l : Launch} {e : Env} {s : State} {m : MethodId} {args : Array Value} {below : List Frame} {meth : Method} {c : Code} {r : Int32} {o : OM} {v1 : Int32} (C : Cx G RX6 cX6_yearsUntilVoid 4 (some .int) p s m args meth c)  {k82 : Int32 → Option Int32} (j82 : ∀ (v3_5 : Int32) H1 L1 ls, Hp G o s H1 L1 → lv_has ls 4 [(3, .int v3_5)] → k82 v3_5 = some r → W p l e rmX6_yearsUntilVoid s m args below meth c H1 L1 0 0 (Qm G (some (.int r)) o rmX6_yearsUntilVoid below args s) (F0 m 82 ls [])) : ∀ (n : Nat) (v2_7 : Int32) (v3_8 : Int32) H1 L1 ls, Hp G o s H1 L1 → lv_has ls 4 [(0, .ref (rA G 19 0)), (1, .int v1), (2, .int v2_7), (3, .int v3_8)] → LX6_yearsUntilVoid_29 k82 o v1 n v2_7 v3_8 = some r → W p l e rmX6_yearsUntilVoid s m args below meth c H1 L1 0 0 (Qm G (some (.int r)) o rmX6_yearsUntilVoid below args s) (F0 m 29 ls []) := by
  intro n
  induction n with
  | zero =>
    intro v2_7 v3_8 H1 L1 ls P hl hf
    exact nomatch hf
  | succ n ih =>
    intro v2_7 v3_8 H1 L1 ls P hl hf
    rw [LX6_yearsUntilVoid_29.eq_2] at hf
    refine r_iload_n C hl 3 rfl rfl dX6_yearsUntilVoid_29 ?_
    refine r_bipush C (v := 50) (by decide) dX6_yearsUntilVoid_30 ?_
    refine r_icmp_gt C dX6_yearsUntilVoid_32 hf (fun hf => ?_) (fun hf => ?_)
    · exact j82 v3_8 _ _ _ P (lv_sub hl [3] rfl) hf
    · refine r_iload_n C hl 2 rfl rfl dX6_yearsUntilVoid_35 ?_
      refine r_aload_n C hl 0 rfl rfl dX6_yearsUntilVoid_36 ?_
      refine gf_19_1 C P rfl wd_880 dX6_yearsUntilVoid_37 ?_
      refine r_sipush C (v := 241) (by decide) dX6_yearsUntilVoid_40 ?_
      refine r_iald C P (k := 20) (i := 0) (n := 244) (fun _ _ => rfl) rfl dX6_yearsUntilVoid_43 hf (fun hf => ?_)
      refine r_icmp_gt C dX6_yearsUntilVoid_44 hf (fun hf => ?_) (fun hf => ?_)
      · exact j82 v3_8 _ _ _ P (lv_sub hl [3] rfl) hf
      · refine r_iload_n C hl 2 rfl rfl dX6_yearsUntilVoid_47 ?_
        refine r_aload_n C hl 0 rfl rfl dX6_yearsUntilVoid_48 ?_
        refine gf_19_1 C P rfl wd_880 dX6_yearsUntilVoid_49 ?_
        refine r_sipush C (v := 235) (by decide) dX6_yearsUntilVoid_52 ?_
        refine r_aload_n C hl 0 rfl rfl dX6_yearsUntilVoid_55 ?_
        refine r_iload_n C hl 1 rfl rfl dX6_yearsUntilVoid_56 ?_
        refine r_iconst C (v := 2) (by decide) dX6_yearsUntilVoid_57 ?_
        refine r_qVi C P cf_X6_37 (rm := rmX6_get) 19 0 (fun _ _ => ⟨_, rfl⟩) rfl rfl rfl [.int v1, .int ((2 : Int32))] [.int ((235 : Int32)), .ref (rA G 20 0), .int v2_7] hf (fun _ h => ctX6_get l G o v1 ((2 : Int32)) h) ⟨rfl, rfl⟩ ⟨Nat.le_of_ble_eq_true rfl, Nat.le_of_ble_eq_true rfl⟩ ⟨Nat.le_of_ble_eq_true rfl, Nat.le_of_ble_eq_true rfl⟩ rfl rfl hl.1 (Nat.le_of_ble_eq_true rfl) dX6_yearsUntilVoid_58 (fun r_9 H1 L1 P hf => ?_)
        refine r_iadd2 C dX6_yearsUntilVoid_61 ?_
        refine r_iald C P (k := 20) (i := 0) (n := 244) (fun _ _ => rfl) rfl dX6_yearsUntilVoid_62 hf (fun hf => ?_)
        refine r_aload_n C hl 0 rfl rfl dX6_yearsUntilVoid_63 ?_
        refine r_iload_n C hl 1 rfl rfl dX6_yearsUntilVoid_64 ?_
        refine r_iconst C (v := 3) (by decide) dX6_yearsUntilVoid_65 ?_
        refine r_qVi C P cf_X6_37 (rm := rmX6_get) 19 0 (fun _ _ => ⟨_, rfl⟩) rfl rfl rfl [.int v1, .int ((3 : Int32))] [.int (rd o 20 0 (((235 : Int32)) + r_9).toNatClampNeg), .int v2_7] hf (fun _ h => ctX6_get l G o v1 ((3 : Int32)) h) ⟨rfl, rfl⟩ ⟨Nat.le_of_ble_eq_true rfl, Nat.le_of_ble_eq_true rfl⟩ ⟨Nat.le_of_ble_eq_true rfl, Nat.le_of_ble_eq_true rfl⟩ rfl rfl hl.1 (Nat.le_of_ble_eq_true rfl) dX6_yearsUntilVoid_66 (fun r_10 H1 L1 P hf => ?_)
        refine r_iload_n C hl 3 rfl rfl dX6_yearsUntilVoid_69 ?_
        refine r_iadd2 C dX6_yearsUntilVoid_70 ?_
        refine r_iconst C (v := 1) (by decide) dX6_yearsUntilVoid_71 ?_
        refine r_iadd2 C dX6_yearsUntilVoid_72 ?_
        refine r_idiv C dX6_yearsUntilVoid_73 hf (fun hf => ?_)
        refine r_iadd2 C dX6_yearsUntilVoid_74 ?_
        refine r_bdi hf (fun v2_11 hf => ?_)
        refine r_istore_n C [(2, .int v2_11), (0, .ref (rA G 19 0)), (1, .int v1), (3, .int v3_8)] hl (by decide) rfl rfl dX6_yearsUntilVoid_75 (fun ls hl => ?_)
        refine r_iinc C (fun v3_12 => [(3, .int v3_12), (2, .int v2_11), (0, .ref (rA G 19 0)), (1, .int v1)]) (w := 1) 3 hl rfl (by decide) (by decide) (fun _ => rfl) dX6_yearsUntilVoid_76 hf (fun v3_12 ls hl hf => ?_)
        refine r_goto C dX6_yearsUntilVoid_79 ?_
        exact ih v2_11 v3_12 _ _ _ P (lv_sub hl [2, 3, 1, 0] rfl) hf
set_option maxHeartbeats 4000000 in
set_option maxRecDepth 100000 in
theorem wX6_yearsUntilVoid {G : Gd} {p : Program} {l : Launch} {e : Env} {s : State} {m : MethodId} {args : Array Value} {below : List Frame} {meth : Method} {c : Code} {o : OM} {H : Heap} {L0 : List Loc} {ls : Array Slot} {r : Int32} {v1 : Int32} (C : Cx G RX6 cX6_yearsUntilVoid 4 (some .int) p s m args meth c)  (P : Hp G o s H L0) (hl : lv_has ls 4 [(0, .ref (rA G 19 0)), (1, .int v1)]) (hf : F_X6_yearsUntilVoid o v1 = some r) : W p l e rmX6_yearsUntilVoid s m args below meth c H L0 0 0 (Qm G (some (.int r)) o rmX6_yearsUntilVoid below args s) (F0 m 0 ls []) := by
  unfold F_X6_yearsUntilVoid at hf
  refine r_aload_n C hl 0 rfl rfl dX6_yearsUntilVoid_0 ?_
  refine r_iload_n C hl 1 rfl rfl dX6_yearsUntilVoid_1 ?_
  refine r_iconst C (v := 5) (by decide) dX6_yearsUntilVoid_2 ?_
  refine r_qVi C P cf_X6_37 (rm := rmX6_get) 19 0 (fun _ _ => ⟨_, rfl⟩) rfl rfl rfl [.int v1, .int ((5 : Int32))] [] hf (fun _ h => ctX6_get l G o v1 ((5 : Int32)) h) ⟨rfl, rfl⟩ ⟨Nat.le_of_ble_eq_true rfl, Nat.le_of_ble_eq_true rfl⟩ ⟨Nat.le_of_ble_eq_true rfl, Nat.le_of_ble_eq_true rfl⟩ rfl rfl hl.1 (Nat.le_of_ble_eq_true rfl) dX6_yearsUntilVoid_3 (fun r_1 H1 L1 P hf => ?_)
  refine r_iconst C (v := -1) (by decide) dX6_yearsUntilVoid_6 ?_
  refine r_icmp_ne C dX6_yearsUntilVoid_7 hf (fun hf => ?_) (fun hf => ?_)
  · refine r_aload_n C hl 0 rfl rfl dX6_yearsUntilVoid_12 ?_
    refine r_iload_n C hl 1 rfl rfl dX6_yearsUntilVoid_13 ?_
    refine r_iconst C (v := 4) (by decide) dX6_yearsUntilVoid_14 ?_
    refine r_qVi C P cf_X6_37 (rm := rmX6_get) 19 0 (fun _ _ => ⟨_, rfl⟩) rfl rfl rfl [.int v1, .int ((4 : Int32))] [] hf (fun _ h => ctX6_get l G o v1 ((4 : Int32)) h) ⟨rfl, rfl⟩ ⟨Nat.le_of_ble_eq_true rfl, Nat.le_of_ble_eq_true rfl⟩ ⟨Nat.le_of_ble_eq_true rfl, Nat.le_of_ble_eq_true rfl⟩ rfl rfl hl.1 (Nat.le_of_ble_eq_true rfl) dX6_yearsUntilVoid_15 (fun r_2 H1 L1 P hf => ?_)
    refine r_aload_n C hl 0 rfl rfl dX6_yearsUntilVoid_18 ?_
    refine r_iload_n C hl 1 rfl rfl dX6_yearsUntilVoid_19 ?_
    refine r_bipush C (v := 6) (by decide) dX6_yearsUntilVoid_20 ?_
    refine r_qVi C P cf_X6_37 (rm := rmX6_get) 19 0 (fun _ _ => ⟨_, rfl⟩) rfl rfl rfl [.int v1, .int ((6 : Int32))] [.int r_2] hf (fun _ h => ctX6_get l G o v1 ((6 : Int32)) h) ⟨rfl, rfl⟩ ⟨Nat.le_of_ble_eq_true rfl, Nat.le_of_ble_eq_true rfl⟩ ⟨Nat.le_of_ble_eq_true rfl, Nat.le_of_ble_eq_true rfl⟩ rfl rfl hl.1 (Nat.le_of_ble_eq_true rfl) dX6_yearsUntilVoid_22 (fun r_3 H1 L1 P hf => ?_)
    refine r_isub C dX6_yearsUntilVoid_25 ?_
    refine r_bdi hf (fun v2_4 hf => ?_)
    refine r_istore_n C [(2, .int v2_4), (0, .ref (rA G 19 0)), (1, .int v1)] hl (by decide) rfl rfl dX6_yearsUntilVoid_26 (fun ls hl => ?_)
    refine r_iconst C (v := 0) (by decide) dX6_yearsUntilVoid_27 ?_
    refine r_istore_n C [(3, .int ((0 : Int32))), (2, .int v2_4), (0, .ref (rA G 19 0)), (1, .int v1)] hl (by decide) rfl rfl dX6_yearsUntilVoid_28 (fun ls hl => ?_)
    refine r_jn (fun k82 : Int32 → Option Int32 => ∀ (v3_5 : Int32) H1 L1 ls, Hp G o s H1 L1 → lv_has ls 4 [(3, .int v3_5)] → k82 v3_5 = some r → W p l e rmX6_yearsUntilVoid s m args below meth c H1 L1 0 0 (Qm G (some (.int r)) o rmX6_yearsUntilVoid below args s) (F0 m 82 ls [])) hf ?_ (fun k82 j82 hf => ?_)
    · intro v3_5 H1 L1 ls  P hl hf
      refine r_iload_n C hl 0 rfl rfl dX6_yearsUntilVoid_82 ?_
      refine r_bipush C (v := 50) (by decide) dX6_yearsUntilVoid_83 ?_
      refine r_jn (fun k93 : Int32 → Option Int32 => ∀ (s_6 : Int32) H1 L1 ls, Hp G o s H1 L1 → lv_has ls 4 [] → k93 s_6 = some r → W p l e rmX6_yearsUntilVoid s m args below meth c H1 L1 0 0 (Qm G (some (.int r)) o rmX6_yearsUntilVoid below args s) (F0 m 93 ls [.int s_6])) hf ?_ (fun k93 j93 hf => ?_)
      · intro s_6 H1 L1 ls  P hl hf
        exact q_iret C P (rm := rmX6_yearsUntilVoid) ⟨rfl, rfl⟩ dX6_yearsUntilVoid_93 hf
      refine r_icmp_le C dX6_yearsUntilVoid_85 hf (fun hf => ?_) (fun hf => ?_)
      · refine r_iload_n C hl 0 rfl rfl dX6_yearsUntilVoid_92 ?_
        exact j93 v3_5 _ _ _ P (lv_sub hl [] rfl) hf
      · refine r_iconst C (v := -1) (by decide) dX6_yearsUntilVoid_88 ?_
        refine r_goto C dX6_yearsUntilVoid_89 ?_
        exact j93 ((-1 : Int32)) _ _ _ P (lv_sub hl [] rfl) hf
    exact lX6_yearsUntilVoid_29 C  j82 FU v2_4 ((0 : Int32)) _ _ _ P (lv_sub hl [2, 3, 1, 0] rfl) hf
  · refine r_iconst C (v := -1) (by decide) dX6_yearsUntilVoid_10 ?_
    exact q_iret C P (rm := rmX6_yearsUntilVoid) ⟨rfl, rfl⟩ dX6_yearsUntilVoid_11 hf
theorem ctX6_yearsUntilVoid (l : Launch) (G : Gd) (o : OM) (v1 : Int32)  {r : Int32} (hf : F_X6_yearsUntilVoid o v1 = some r) : Ct l yX6_yearsUntilVoid cX6_yearsUntilVoid 4 (some .int) rmX6_yearsUntilVoid G [.ref (rA G 19 0), .int v1] o (some (.int r)) o := ct_of (by decide +kernel) (Nat.le_of_ble_eq_true rfl) (fun p e s m below meth c ls C P hl => wX6_yearsUntilVoid C  P hl hf)
theorem cf_X6_203 : CallF false RX6 203 yX6_yearsUntilVoid cX6_yearsUntilVoid 4 (some .int) 1 := ⟨wd_1210, (by rw [if_neg (by decide)]; exact ⟨wd_1212, wd_60⟩), wd_71, wd_1213, by decide, by decide +kernel⟩
theorem dX6_voidIn_0 : Dc cX6_voidIn 0 (.aload_n 0) 1 1 := ⟨by decide +kernel, rfl⟩
theorem dX6_voidIn_1 : Dc cX6_voidIn 1 (.aload_n 0) 1 2 := ⟨by decide +kernel, rfl⟩
theorem dX6_voidIn_2 : Dc cX6_voidIn 2 (.iload_n 1) 1 3 := ⟨by decide +kernel, rfl⟩
theorem dX6_voidIn_3 : Dc cX6_voidIn 3 (.invokevirtual 96) 3 6 := ⟨by decide +kernel, rfl⟩
theorem dX6_voidIn_6 : Dj cX6_voidIn 6 (.ifCond .eq 7) 3 9 (7) 13 := ⟨by decide +kernel, rfl, by decide⟩
theorem dX6_voidIn_9 : Dc cX6_voidIn 9 (.iconst 0) 1 10 := ⟨by decide +kernel, rfl⟩
theorem dX6_voidIn_10 : Dj cX6_voidIn 10 (.goto 4) 3 13 (4) 14 := ⟨by decide +kernel, rfl, by decide⟩
theorem dX6_voidIn_13 : Dc cX6_voidIn 13 (.iconst 1) 1 14 := ⟨by decide +kernel, rfl⟩
theorem dX6_voidIn_14 : Dc cX6_voidIn 14 (.invokevirtual 87) 3 17 := ⟨by decide +kernel, rfl⟩
theorem dX6_voidIn_17 : Dj cX6_voidIn 17 (.ifCond .eq 11) 3 20 (11) 28 := ⟨by decide +kernel, rfl, by decide⟩
theorem dX6_voidIn_20 : Dc cX6_voidIn 20 (.aload_n 0) 1 21 := ⟨by decide +kernel, rfl⟩
theorem dX6_voidIn_21 : Dc cX6_voidIn 21 (.iload_n 1) 1 22 := ⟨by decide +kernel, rfl⟩
theorem dX6_voidIn_22 : Dc cX6_voidIn 22 (.invokevirtual 203) 3 25 := ⟨by decide +kernel, rfl⟩
theorem dX6_voidIn_25 : Dj cX6_voidIn 25 (.goto 4) 3 28 (4) 29 := ⟨by decide +kernel, rfl, by decide⟩
theorem dX6_voidIn_28 : Dc cX6_voidIn 28 (.iconst 0) 1 29 := ⟨by decide +kernel, rfl⟩
theorem dX6_voidIn_29 : Dc cX6_voidIn 29 (.ireturn) 1 30 := ⟨by decide +kernel, rfl⟩
def F_X6_voidIn (o : OM) (v1 : Int32) : Option (Int32 × OM) := bq (F_X6_isThere o v1) (fun r_1 => bd (fun (s_2 : Int32) => bn (F_X6_holds o s_2) (fun r_3 o_4 => bd (fun (s_5 : Int32) => some (s_5, o_4)) (fun k29 => if r_3 = 0 then (k29 ((0 : Int32))) else (bq (F_X6_yearsUntilVoid o_4 v1) (fun r_6 => k29 r_6))))) (fun k14 => if r_1 = 0 then (k14 ((1 : Int32))) else (k14 ((0 : Int32)))))
abbrev rmX6_voidIn : Room := { frames := 3, cells := 0, slots := 0, locals := 66 }
set_option maxHeartbeats 4000000 in
set_option maxRecDepth 100000 in
theorem wX6_voidIn {G : Gd} {p : Program} {l : Launch} {e : Env} {s : State} {m : MethodId} {args : Array Value} {below : List Frame} {meth : Method} {c : Code} {o : OM} {H : Heap} {L0 : List Loc} {ls : Array Slot} {r : Int32} {o9 : OM} {v1 : Int32} (C : Cx G RX6 cX6_voidIn 2 (some .int) p s m args meth c)  (P : Hp G o s H L0) (hl : lv_has ls 2 [(0, .ref (rA G 19 0)), (1, .int v1)]) (hf : F_X6_voidIn o v1 = some (r, o9)) : W p l e rmX6_voidIn s m args below meth c H L0 0 0 (Qm G (some (.int r)) o9 rmX6_voidIn below args s) (F0 m 0 ls []) := by
  unfold F_X6_voidIn at hf
  refine r_aload_n C hl 0 rfl rfl dX6_voidIn_0 ?_
  refine r_aload_n C hl 0 rfl rfl dX6_voidIn_1 ?_
  refine r_iload_n C hl 1 rfl rfl dX6_voidIn_2 ?_
  refine r_qVi C P cf_X6_96 (rm := rmX6_isThere) 19 0 (fun _ _ => ⟨_, rfl⟩) rfl rfl rfl [.int v1] [.ref (rA G 19 0)] hf (fun _ h => ctX6_isThere l G o v1 h) ⟨rfl, rfl⟩ ⟨Nat.le_of_ble_eq_true rfl, Nat.le_of_ble_eq_true rfl⟩ ⟨Nat.le_of_ble_eq_true rfl, Nat.le_of_ble_eq_true rfl⟩ rfl rfl hl.1 (Nat.le_of_ble_eq_true rfl) dX6_voidIn_3 (fun r_1 H1 L1 P hf => ?_)
  refine r_jn (fun k14 : Int32 → Option (Int32 × OM) => ∀ (s_2 : Int32) H1 L1 ls, Hp G o s H1 L1 → lv_has ls 2 [(0, .ref (rA G 19 0)), (1, .int v1)] → k14 s_2 = some (r, o9) → W p l e rmX6_voidIn s m args below meth c H1 L1 0 0 (Qm G (some (.int r)) o9 rmX6_voidIn below args s) (F0 m 14 ls [.int s_2, .ref (rA G 19 0)])) hf ?_ (fun k14 j14 hf => ?_)
  · intro s_2 H1 L1 ls  P hl hf
    refine r_cVi C P cf_X6_87 (rm := rmX6_holds) 19 0 (fun _ _ => ⟨_, rfl⟩) rfl rfl rfl [.int s_2] [] hf (fun _ _ h => ctX6_holds l G o s_2 h) ⟨rfl, rfl⟩ ⟨Nat.le_of_ble_eq_true rfl, Nat.le_of_ble_eq_true rfl⟩ ⟨Nat.le_of_ble_eq_true rfl, Nat.le_of_ble_eq_true rfl⟩ rfl rfl hl.1 (Nat.le_of_ble_eq_true rfl) dX6_voidIn_14 (fun r_3 o_4 H1 L1 P hf => ?_)
    refine r_jn (fun k29 : Int32 → Option (Int32 × OM) => ∀ (s_5 : Int32) H1 L1 ls, Hp G o_4 s H1 L1 → lv_has ls 2 [] → k29 s_5 = some (r, o9) → W p l e rmX6_voidIn s m args below meth c H1 L1 0 0 (Qm G (some (.int r)) o9 rmX6_voidIn below args s) (F0 m 29 ls [.int s_5])) hf ?_ (fun k29 j29 hf => ?_)
    · intro s_5 H1 L1 ls  P hl hf
      exact r_iret C P (rm := rmX6_voidIn) ⟨rfl, rfl⟩ dX6_voidIn_29 hf
    refine r_if_eq C dX6_voidIn_17 hf (fun hf => ?_) (fun hf => ?_)
    · refine r_iconst C (v := 0) (by decide) dX6_voidIn_28 ?_
      exact j29 ((0 : Int32)) _ _ _ P (lv_sub hl [] rfl) hf
    · refine r_aload_n C hl 0 rfl rfl dX6_voidIn_20 ?_
      refine r_iload_n C hl 1 rfl rfl dX6_voidIn_21 ?_
      refine r_qVi C P cf_X6_203 (rm := rmX6_yearsUntilVoid) 19 0 (fun _ _ => ⟨_, rfl⟩) rfl rfl rfl [.int v1] [] hf (fun _ h => ctX6_yearsUntilVoid l G o_4 v1 h) ⟨rfl, rfl⟩ ⟨Nat.le_of_ble_eq_true rfl, Nat.le_of_ble_eq_true rfl⟩ ⟨Nat.le_of_ble_eq_true rfl, Nat.le_of_ble_eq_true rfl⟩ rfl rfl hl.1 (Nat.le_of_ble_eq_true rfl) dX6_voidIn_22 (fun r_6 H1 L1 P hf => ?_)
      refine r_goto C dX6_voidIn_25 ?_
      exact j29 r_6 _ _ _ P (lv_sub hl [] rfl) hf
  refine r_if_eq C dX6_voidIn_6 hf (fun hf => ?_) (fun hf => ?_)
  · refine r_iconst C (v := 1) (by decide) dX6_voidIn_13 ?_
    exact j14 ((1 : Int32)) _ _ _ P (lv_sub hl [0, 1] rfl) hf
  · refine r_iconst C (v := 0) (by decide) dX6_voidIn_9 ?_
    refine r_goto C dX6_voidIn_10 ?_
    exact j14 ((0 : Int32)) _ _ _ P (lv_sub hl [0, 1] rfl) hf
theorem ctX6_voidIn (l : Launch) (G : Gd) (o : OM) (v1 : Int32)  {r : Int32} {o9 : OM} (hf : F_X6_voidIn o v1 = some (r, o9)) : Ct l yX6_voidIn cX6_voidIn 2 (some .int) rmX6_voidIn G [.ref (rA G 19 0), .int v1] o (some (.int r)) o9 := ct_of (by decide +kernel) (Nat.le_of_ble_eq_true rfl) (fun p e s m below meth c ls C P hl => wX6_voidIn C  P hl hf)
theorem dX6_share_0 : Dc cX6_share 0 (.aload_n 0) 1 1 := ⟨by decide +kernel, rfl⟩
theorem dX6_share_1 : Dc cX6_share 1 (.getfield 7) 3 4 := ⟨by decide +kernel, rfl⟩
theorem dX6_share_4 : Dc cX6_share 4 (.sipush 228) 3 7 := ⟨by decide +kernel, rfl⟩
theorem dX6_share_7 : Dc cX6_share 7 (.iaload) 1 8 := ⟨by decide +kernel, rfl⟩
theorem dX6_share_8 : Dj cX6_share 8 (.ifCond .ne 7) 3 11 (7) 15 := ⟨by decide +kernel, rfl, by decide⟩
theorem dX6_share_11 : Dc cX6_share 11 (.dconst 1) 1 12 := ⟨by decide +kernel, rfl⟩
theorem dX6_share_12 : Dj cX6_share 12 (.goto 19) 3 15 (19) 31 := ⟨by decide +kernel, rfl, by decide⟩
theorem dX6_share_15 : Dc cX6_share 15 (.aload_n 0) 1 16 := ⟨by decide +kernel, rfl⟩
theorem dX6_share_16 : Dc cX6_share 16 (.iconst 3) 1 17 := ⟨by decide +kernel, rfl⟩
theorem dX6_share_17 : Dc cX6_share 17 (.invokevirtual 194) 3 20 := ⟨by decide +kernel, rfl⟩
theorem dX6_share_20 : Dc cX6_share 20 (.i2d) 1 21 := ⟨by decide +kernel, rfl⟩
theorem dX6_share_21 : Dc cX6_share 21 (.aload_n 0) 1 22 := ⟨by decide +kernel, rfl⟩
theorem dX6_share_22 : Dc cX6_share 22 (.getfield 7) 3 25 := ⟨by decide +kernel, rfl⟩
theorem dX6_share_25 : Dc cX6_share 25 (.sipush 228) 3 28 := ⟨by decide +kernel, rfl⟩
theorem dX6_share_28 : Dc cX6_share 28 (.iaload) 1 29 := ⟨by decide +kernel, rfl⟩
theorem dX6_share_29 : Dc cX6_share 29 (.i2d) 1 30 := ⟨by decide +kernel, rfl⟩
theorem dX6_share_30 : Dc cX6_share 30 (.ddiv) 1 31 := ⟨by decide +kernel, rfl⟩
theorem dX6_share_31 : Dc cX6_share 31 (.dreturn) 1 32 := ⟨by decide +kernel, rfl⟩
def F_X6_share (o : OM) : Option UInt64 := grd (inB ((228 : Int32)) 244) (bd (fun (s_1 : UInt64) => some s_1) (fun k31 => if (rd o 20 0 ((228 : Int32)).toNatClampNeg) = 0 then (k31 FP.dconst1) else (bq (F_X6_sumOf o ((3 : Int32))) (fun r_2 => grd (inB ((228 : Int32)) 244) (bd (FP.ddiv (FP.i2d r_2) (FP.i2d (rd o 20 0 ((228 : Int32)).toNatClampNeg))) (fun w_3 : UInt64 => grd (n64 w_3) (k31 w_3)))))))
abbrev rmX6_share : Room := { frames := 4, cells := 0, slots := 0, locals := 87 }
set_option maxHeartbeats 4000000 in
set_option maxRecDepth 100000 in
theorem wX6_share {G : Gd} {p : Program} {l : Launch} {e : Env} {s : State} {m : MethodId} {args : Array Value} {below : List Frame} {meth : Method} {c : Code} {o : OM} {H : Heap} {L0 : List Loc} {ls : Array Slot} {r : UInt64}  (C : Cx G RX6 cX6_share 1 (some .double) p s m args meth c)  (P : Hp G o s H L0) (hl : lv_has ls 1 [(0, .ref (rA G 19 0))]) (hf : F_X6_share o  = some r) : W p l e rmX6_share s m args below meth c H L0 0 0 (Qm G (some (.double r)) o rmX6_share below args s) (F0 m 0 ls []) := by
  unfold F_X6_share at hf
  refine r_aload_n C hl 0 rfl rfl dX6_share_0 ?_
  refine gf_19_1 C P rfl wd_880 dX6_share_1 ?_
  refine r_sipush C (v := 228) (by decide) dX6_share_4 ?_
  refine r_iald C P (k := 20) (i := 0) (n := 244) (fun _ _ => rfl) rfl dX6_share_7 hf (fun hf => ?_)
  refine r_jn (fun k31 : UInt64 → Option UInt64 => ∀ (s_1 : UInt64) H1 L1 ls, Hp G o s H1 L1 → lv_has ls 1 [] → k31 s_1 = some r → W p l e rmX6_share s m args below meth c H1 L1 0 0 (Qm G (some (.double r)) o rmX6_share below args s) (F0 m 31 ls [.double s_1])) hf ?_ (fun k31 j31 hf => ?_)
  · intro s_1 H1 L1 ls  P hl hf
    exact q_dret C P (rm := rmX6_share) ⟨rfl, rfl⟩ dX6_share_31 hf
  refine r_if_ne C dX6_share_8 hf (fun hf => ?_) (fun hf => ?_)
  · refine r_aload_n C hl 0 rfl rfl dX6_share_15 ?_
    refine r_iconst C (v := 3) (by decide) dX6_share_16 ?_
    refine r_qVi C P cf_X6_194 (rm := rmX6_sumOf) 19 0 (fun _ _ => ⟨_, rfl⟩) rfl rfl rfl [.int ((3 : Int32))] [] hf (fun _ h => ctX6_sumOf l G o ((3 : Int32)) h) ⟨rfl, rfl⟩ ⟨Nat.le_of_ble_eq_true rfl, Nat.le_of_ble_eq_true rfl⟩ ⟨Nat.le_of_ble_eq_true rfl, Nat.le_of_ble_eq_true rfl⟩ rfl rfl hl.1 (Nat.le_of_ble_eq_true rfl) dX6_share_17 (fun r_2 H1 L1 P hf => ?_)
    refine r_i2d C dX6_share_20 ?_
    refine r_aload_n C hl 0 rfl rfl dX6_share_21 ?_
    refine gf_19_1 C P rfl wd_880 dX6_share_22 ?_
    refine r_sipush C (v := 228) (by decide) dX6_share_25 ?_
    refine r_iald C P (k := 20) (i := 0) (n := 244) (fun _ _ => rfl) rfl dX6_share_28 hf (fun hf => ?_)
    refine r_i2d C dX6_share_29 ?_
    refine r_ddiv C dX6_share_30 hf (fun w_3 hf => ?_)
    exact j31 w_3 _ _ _ P (lv_sub hl [] rfl) hf
  · refine r_dconst1 C dX6_share_11 ?_
    refine r_goto C dX6_share_12 ?_
    exact j31 FP.dconst1 _ _ _ P (lv_sub hl [] rfl) hf
theorem ctX6_share (l : Launch) (G : Gd) (o : OM)   {r : UInt64} (hf : F_X6_share o  = some r) : Ct l yX6_share cX6_share 1 (some .double) rmX6_share G [.ref (rA G 19 0)] o (some (.double r)) o := ct_of (by decide +kernel) (Nat.le_of_ble_eq_true rfl) (fun p e s m below meth c ls C P hl => wX6_share C  P hl hf)
theorem cf_X6_206 : CallF false RX6 206 yX6_share cX6_share 1 (some .double) 0 := ⟨wd_1218, (by rw [if_neg (by decide)]; exact ⟨wd_1220, wd_61⟩), wd_71, wd_1221, by decide, by decide +kernel⟩
theorem dX6_validShare_0 : Dc cX6_validShare 0 (.aload_n 0) 1 1 := ⟨by decide +kernel, rfl⟩
theorem dX6_validShare_1 : Dc cX6_validShare 1 (.iconst 0) 1 2 := ⟨by decide +kernel, rfl⟩
theorem dX6_validShare_2 : Dc cX6_validShare 2 (.putfield 22) 3 5 := ⟨by decide +kernel, rfl⟩
theorem dX6_validShare_5 : Dc cX6_validShare 5 (.aload_n 0) 1 6 := ⟨by decide +kernel, rfl⟩
theorem dX6_validShare_6 : Dc cX6_validShare 6 (.invokevirtual 206) 3 9 := ⟨by decide +kernel, rfl⟩
theorem dX6_validShare_9 : Dc cX6_validShare 9 (.dreturn) 1 10 := ⟨by decide +kernel, rfl⟩
def F_X6_validShare (o : OM) : Option (UInt64 × OM) := bd (wr o 19 0 0 ((0 : Int32))) (fun o_1 : OM => bq (F_X6_share o_1) (fun r_2 => some (r_2, o_1)))
abbrev rmX6_validShare : Room := { frames := 5, cells := 0, slots := 0, locals := 107 }
set_option maxHeartbeats 4000000 in
set_option maxRecDepth 100000 in
theorem wX6_validShare {G : Gd} {p : Program} {l : Launch} {e : Env} {s : State} {m : MethodId} {args : Array Value} {below : List Frame} {meth : Method} {c : Code} {o : OM} {H : Heap} {L0 : List Loc} {ls : Array Slot} {r : UInt64} {o9 : OM}  (C : Cx G RX6 cX6_validShare 1 (some .double) p s m args meth c)  (P : Hp G o s H L0) (hl : lv_has ls 1 [(0, .ref (rA G 19 0))]) (hf : F_X6_validShare o  = some (r, o9)) : W p l e rmX6_validShare s m args below meth c H L0 0 0 (Qm G (some (.double r)) o9 rmX6_validShare below args s) (F0 m 0 ls []) := by
  unfold F_X6_validShare at hf
  refine r_aload_n C hl 0 rfl rfl dX6_validShare_0 ?_
  refine r_iconst C (v := 0) (by decide) dX6_validShare_1 ?_
  refine pf_19_0 C P rfl wd_879 dX6_validShare_2 hf (fun o_1 H1 L1 P hf => ?_)
  refine r_aload_n C hl 0 rfl rfl dX6_validShare_5 ?_
  refine r_qVd C P cf_X6_206 (rm := rmX6_share) 19 0 (fun _ _ => ⟨_, rfl⟩) rfl rfl rfl [] [] hf (fun _ h => ctX6_share l G o_1 h) ⟨rfl, rfl⟩ ⟨Nat.le_of_ble_eq_true rfl, Nat.le_of_ble_eq_true rfl⟩ ⟨Nat.le_of_ble_eq_true rfl, Nat.le_of_ble_eq_true rfl⟩ rfl rfl hl.1 (Nat.le_of_ble_eq_true rfl) dX6_validShare_6 (fun r_2 H1 L1 P hf => ?_)
  exact r_dret C P (rm := rmX6_validShare) ⟨rfl, rfl⟩ dX6_validShare_9 hf
theorem ctX6_validShare (l : Launch) (G : Gd) (o : OM)   {r : UInt64} {o9 : OM} (hf : F_X6_validShare o  = some (r, o9)) : Ct l yX6_validShare cX6_validShare 1 (some .double) rmX6_validShare G [.ref (rA G 19 0)] o (some (.double r)) o9 := ct_of (by decide +kernel) (Nat.le_of_ble_eq_true rfl) (fun p e s m below meth c ls C P hl => wX6_validShare C  P hl hf)
theorem dX6_bitsOf_0 : Dc cX6_bitsOf 0 (.dload_n 0) 1 1 := ⟨by decide +kernel, rfl⟩
theorem dX6_bitsOf_1 : Dc cX6_bitsOf 1 (.dconst 0) 1 2 := ⟨by decide +kernel, rfl⟩
theorem dX6_bitsOf_2 : Dc cX6_bitsOf 2 (.dcmp .l) 1 3 := ⟨by decide +kernel, rfl⟩
theorem dX6_bitsOf_3 : Dj cX6_bitsOf 3 (.ifCond .ne 5) 3 6 (5) 8 := ⟨by decide +kernel, rfl, by decide⟩
theorem dX6_bitsOf_6 : Dc cX6_bitsOf 6 (.lconst 0) 1 7 := ⟨by decide +kernel, rfl⟩
theorem dX6_bitsOf_7 : Dc cX6_bitsOf 7 (.lreturn) 1 8 := ⟨by decide +kernel, rfl⟩
theorem dX6_bitsOf_8 : Dc cX6_bitsOf 8 (.ldc2_w 210) 3 11 := ⟨by decide +kernel, rfl⟩
theorem dX6_bitsOf_11 : Dc cX6_bitsOf 11 (.lstore_n 2) 1 12 := ⟨by decide +kernel, rfl⟩
theorem dX6_bitsOf_12 : Dc cX6_bitsOf 12 (.dload_n 0) 1 13 := ⟨by decide +kernel, rfl⟩
theorem dX6_bitsOf_13 : Dc cX6_bitsOf 13 (.dstore 4) 2 15 := ⟨by decide +kernel, rfl⟩
theorem dX6_bitsOf_15 : Dc cX6_bitsOf 15 (.dload 4) 2 17 := ⟨by decide +kernel, rfl⟩
theorem dX6_bitsOf_17 : Dc cX6_bitsOf 17 (.dconst 1) 1 18 := ⟨by decide +kernel, rfl⟩
theorem dX6_bitsOf_18 : Dc cX6_bitsOf 18 (.dcmp .g) 1 19 := ⟨by decide +kernel, rfl⟩
theorem dX6_bitsOf_19 : Dj cX6_bitsOf 19 (.ifCond .ge 18) 3 22 (18) 37 := ⟨by decide +kernel, rfl, by decide⟩
theorem dX6_bitsOf_22 : Dc cX6_bitsOf 22 (.dload 4) 2 24 := ⟨by decide +kernel, rfl⟩
theorem dX6_bitsOf_24 : Dc cX6_bitsOf 24 (.ldc2_w 212) 3 27 := ⟨by decide +kernel, rfl⟩
theorem dX6_bitsOf_27 : Dc cX6_bitsOf 27 (.dmul) 1 28 := ⟨by decide +kernel, rfl⟩
theorem dX6_bitsOf_28 : Dc cX6_bitsOf 28 (.dstore 4) 2 30 := ⟨by decide +kernel, rfl⟩
theorem dX6_bitsOf_30 : Dc cX6_bitsOf 30 (.lload_n 2) 1 31 := ⟨by decide +kernel, rfl⟩
theorem dX6_bitsOf_31 : Dc cX6_bitsOf 31 (.lconst 1) 1 32 := ⟨by decide +kernel, rfl⟩
theorem dX6_bitsOf_32 : Dc cX6_bitsOf 32 (.lsub) 1 33 := ⟨by decide +kernel, rfl⟩
theorem dX6_bitsOf_33 : Dc cX6_bitsOf 33 (.lstore_n 2) 1 34 := ⟨by decide +kernel, rfl⟩
theorem dX6_bitsOf_34 : Dj cX6_bitsOf 34 (.goto (-19)) 3 37 (-19) 15 := ⟨by decide +kernel, rfl, by decide⟩
theorem dX6_bitsOf_37 : Dc cX6_bitsOf 37 (.lload_n 2) 1 38 := ⟨by decide +kernel, rfl⟩
theorem dX6_bitsOf_38 : Dc cX6_bitsOf 38 (.ldc2_w 214) 3 41 := ⟨by decide +kernel, rfl⟩
theorem dX6_bitsOf_41 : Dc cX6_bitsOf 41 (.lmul) 1 42 := ⟨by decide +kernel, rfl⟩
theorem dX6_bitsOf_42 : Dc cX6_bitsOf 42 (.dload 4) 2 44 := ⟨by decide +kernel, rfl⟩
theorem dX6_bitsOf_44 : Dc cX6_bitsOf 44 (.dconst 1) 1 45 := ⟨by decide +kernel, rfl⟩
theorem dX6_bitsOf_45 : Dc cX6_bitsOf 45 (.dsub) 1 46 := ⟨by decide +kernel, rfl⟩
theorem dX6_bitsOf_46 : Dc cX6_bitsOf 46 (.ldc2_w 216) 3 49 := ⟨by decide +kernel, rfl⟩
theorem dX6_bitsOf_49 : Dc cX6_bitsOf 49 (.dmul) 1 50 := ⟨by decide +kernel, rfl⟩
theorem dX6_bitsOf_50 : Dc cX6_bitsOf 50 (.d2l) 1 51 := ⟨by decide +kernel, rfl⟩
theorem dX6_bitsOf_51 : Dc cX6_bitsOf 51 (.ladd) 1 52 := ⟨by decide +kernel, rfl⟩
theorem dX6_bitsOf_52 : Dc cX6_bitsOf 52 (.lreturn) 1 53 := ⟨by decide +kernel, rfl⟩
def LX6_bitsOf_15 (k37 : Int64 → UInt64 → Option Int64) : Nat → Int64 → UInt64 → Option Int64
  | 0 => fun _ _ => none
  | n + 1 => fun v2_5 v4_6 => if 0 ≤ (Op.cmpValue (FP.dcmp v4_6 FP.dconst1) .g) then (k37 v2_5 v4_6) else (bd (FP.dmul v4_6 ((4611686018427387904 : UInt64))) (fun w_7 : UInt64 => grd (n64 w_7) (bd (v2_5 - ((1 : Int64))) (fun v2_8 : Int64 => (LX6_bitsOf_15 k37 n) v2_8 w_7))))
def F_X6_bitsOf (o : OM) (v0 : UInt64) : Option Int64 := if (Op.cmpValue (FP.dcmp v0 FP.dconst0) .l) = 0 then (some ((0 : Int64))) else (bd (fun (v2_1 : Int64) (v4_2 : UInt64) => bd (FP.dsub v4_2 FP.dconst1) (fun w_3 : UInt64 => grd (n64 w_3) (bd (FP.dmul w_3 ((4841369599423283200 : UInt64))) (fun w_4 : UInt64 => grd (n64 w_4) (some ((v2_1 * ((4503599627370496 : Int64))) + (FP.d2l w_4))))))) (fun k37 => LX6_bitsOf_15 k37 FU ((1023 : Int64)) v0))
abbrev rmX6_bitsOf : Room := { frames := 0, cells := 0, slots := 0, locals := 0 }
set_option maxHeartbeats 4000000 in
set_option maxRecDepth 100000 in
theorem lX6_bitsOf_15 {G : Gd} {p : Program} {l : Launch} {e : Env} {s : State} {m : MethodId} {args : Array Value} {below : List Frame} {meth : Method} {c : Code} {r : Int64} {o : OM} (C : Cx G RX6 cX6_bitsOf 6 (some .long) p s m args meth c)  {k37 : Int64 → UInt64 → Option Int64} (j37 : ∀ (v2_1 : Int64) (v4_2 : UInt64) H1 L1 ls, Hp G o s H1 L1 → lv_has ls 6 [(2, .long v2_1), (4, .double v4_2)] → k37 v2_1 v4_2 = some r → W p l e rmX6_bitsOf s m args below meth c H1 L1 0 0 (Qm G (some (.long r)) o rmX6_bitsOf below args s) (F0 m 37 ls [])) : ∀ (n : Nat) (v2_5 : Int64) (v4_6 : UInt64) H1 L1 ls, Hp G o s H1 L1 → lv_has ls 6 [(2, .long v2_5), (4, .double v4_6)] → LX6_bitsOf_15 k37 n v2_5 v4_6 = some r → W p l e rmX6_bitsOf s m args below meth c H1 L1 0 0 (Qm G (some (.long r)) o rmX6_bitsOf below args s) (F0 m 15 ls []) := by
  intro n
  induction n with
  | zero =>
    intro v2_5 v4_6 H1 L1 ls P hl hf
    exact nomatch hf
  | succ n ih =>
    intro v2_5 v4_6 H1 L1 ls P hl hf
    rw [LX6_bitsOf_15.eq_2] at hf
    refine r_dload C hl 1 rfl dX6_bitsOf_15 ?_
    refine r_dconst1 C dX6_bitsOf_17 ?_
    refine r_dcmp C dX6_bitsOf_18 ?_
    refine r_if_ge C dX6_bitsOf_19 hf (fun hf => ?_) (fun hf => ?_)
    · exact j37 v2_5 v4_6 _ _ _ P (lv_sub hl [0, 1] rfl) hf
    · refine r_dload C hl 1 rfl dX6_bitsOf_22 ?_
      refine r_ldc2d C wd_1240 dX6_bitsOf_24 ?_
      refine r_dmul C dX6_bitsOf_27 hf (fun w_7 hf => ?_)
      refine r_dstore C [(4, .double w_7), (2, .long v2_5)] hl (by decide) rfl dX6_bitsOf_28 (fun ls hl => ?_)
      refine r_lload_n C hl 1 rfl rfl dX6_bitsOf_30 ?_
      refine r_lconst C (v := 1) (by decide) dX6_bitsOf_31 ?_
      refine r_lsub C dX6_bitsOf_32 ?_
      refine r_bdl hf (fun v2_8 hf => ?_)
      refine r_lstore_n C [(2, .long v2_8), (4, .double w_7)] hl (by decide) rfl rfl dX6_bitsOf_33 (fun ls hl => ?_)
      refine r_goto C dX6_bitsOf_34 ?_
      exact ih v2_8 w_7 _ _ _ P (lv_sub hl [0, 1] rfl) hf
set_option maxHeartbeats 4000000 in
set_option maxRecDepth 100000 in
theorem wX6_bitsOf {G : Gd} {p : Program} {l : Launch} {e : Env} {s : State} {m : MethodId} {args : Array Value} {below : List Frame} {meth : Method} {c : Code} {o : OM} {H : Heap} {L0 : List Loc} {ls : Array Slot} {r : Int64} {v0 : UInt64} (C : Cx G RX6 cX6_bitsOf 6 (some .long) p s m args meth c)  (P : Hp G o s H L0) (hl : lv_has ls 6 [(0, .double v0)]) (hf : F_X6_bitsOf o v0 = some r) : W p l e rmX6_bitsOf s m args below meth c H L0 0 0 (Qm G (some (.long r)) o rmX6_bitsOf below args s) (F0 m 0 ls []) := by
  unfold F_X6_bitsOf at hf
  refine r_dload_n C hl 0 rfl rfl dX6_bitsOf_0 ?_
  refine r_dconst0 C dX6_bitsOf_1 ?_
  refine r_dcmp C dX6_bitsOf_2 ?_
  refine r_if_ne C dX6_bitsOf_3 hf (fun hf => ?_) (fun hf => ?_)
  · refine r_ldc2 C wd_1239 dX6_bitsOf_8 ?_
    refine r_lstore_n C [(2, .long ((1023 : Int64))), (0, .double v0)] hl (by decide) rfl rfl dX6_bitsOf_11 (fun ls hl => ?_)
    refine r_dload_n C hl 1 rfl rfl dX6_bitsOf_12 ?_
    refine r_dstore C [(4, .double v0), (2, .long ((1023 : Int64))), (0, .double v0)] hl (by decide) rfl dX6_bitsOf_13 (fun ls hl => ?_)
    refine r_jn (fun k37 : Int64 → UInt64 → Option Int64 => ∀ (v2_1 : Int64) (v4_2 : UInt64) H1 L1 ls, Hp G o s H1 L1 → lv_has ls 6 [(2, .long v2_1), (4, .double v4_2)] → k37 v2_1 v4_2 = some r → W p l e rmX6_bitsOf s m args below meth c H1 L1 0 0 (Qm G (some (.long r)) o rmX6_bitsOf below args s) (F0 m 37 ls [])) hf ?_ (fun k37 j37 hf => ?_)
    · intro v2_1 v4_2 H1 L1 ls  P hl hf
      refine r_lload_n C hl 0 rfl rfl dX6_bitsOf_37 ?_
      refine r_ldc2 C wd_1241 dX6_bitsOf_38 ?_
      refine r_lmul C dX6_bitsOf_41 ?_
      refine r_dload C hl 1 rfl dX6_bitsOf_42 ?_
      refine r_dconst1 C dX6_bitsOf_44 ?_
      refine r_dsub C dX6_bitsOf_45 hf (fun w_3 hf => ?_)
      refine r_ldc2d C wd_1242 dX6_bitsOf_46 ?_
      refine r_dmul C dX6_bitsOf_49 hf (fun w_4 hf => ?_)
      refine r_d2l C dX6_bitsOf_50 ?_
      refine r_ladd C dX6_bitsOf_51 ?_
      exact q_lret C P (rm := rmX6_bitsOf) ⟨rfl, rfl⟩ dX6_bitsOf_52 hf
    exact lX6_bitsOf_15 C  j37 FU ((1023 : Int64)) v0 _ _ _ P (lv_sub hl [1, 0] rfl) hf
  · refine r_lconst C (v := 0) (by decide) dX6_bitsOf_6 ?_
    exact q_lret C P (rm := rmX6_bitsOf) ⟨rfl, rfl⟩ dX6_bitsOf_7 hf
theorem ctX6_bitsOf (l : Launch) (G : Gd) (o : OM) (v0 : UInt64)  {r : Int64} (hf : F_X6_bitsOf o v0 = some r) : Ct l yX6_bitsOf cX6_bitsOf 6 (some .long) rmX6_bitsOf G [.double v0] o (some (.long r)) o := ct_of (by decide +kernel) (Nat.le_of_ble_eq_true rfl) (fun p e s m below meth c ls C P hl => wX6_bitsOf C  P hl hf)
theorem dX6_digestOne_0 : Dc cX6_digestOne 0 (.aload_n 0) 1 1 := ⟨by decide +kernel, rfl⟩
theorem dX6_digestOne_1 : Dc cX6_digestOne 1 (.ldc2_w 218) 3 4 := ⟨by decide +kernel, rfl⟩
theorem dX6_digestOne_4 : Dc cX6_digestOne 4 (.aload_n 0) 1 5 := ⟨by decide +kernel, rfl⟩
theorem dX6_digestOne_5 : Dc cX6_digestOne 5 (.getfield 220) 3 8 := ⟨by decide +kernel, rfl⟩
theorem dX6_digestOne_8 : Dc cX6_digestOne 8 (.lmul) 1 9 := ⟨by decide +kernel, rfl⟩
theorem dX6_digestOne_9 : Dc cX6_digestOne 9 (.lload_n 1) 1 10 := ⟨by decide +kernel, rfl⟩
theorem dX6_digestOne_10 : Dc cX6_digestOne 10 (.ladd) 1 11 := ⟨by decide +kernel, rfl⟩
theorem dX6_digestOne_11 : Dc cX6_digestOne 11 (.putfield 220) 3 14 := ⟨by decide +kernel, rfl⟩
theorem dX6_digestOne_14 : Dc cX6_digestOne 14 (.return_) 1 15 := ⟨by decide +kernel, rfl⟩
def F_X6_digestOne (o : OM) (v1 : Int64) : Option (Unit × OM) := bd (wrL o 19 ((((31 : Int64)) * (rdL o 19)) + v1)) (fun o_1 : OM => some ((), o_1))
abbrev rmX6_digestOne : Room := { frames := 0, cells := 0, slots := 0, locals := 0 }
set_option maxHeartbeats 4000000 in
set_option maxRecDepth 100000 in
theorem wX6_digestOne {G : Gd} {p : Program} {l : Launch} {e : Env} {s : State} {m : MethodId} {args : Array Value} {below : List Frame} {meth : Method} {c : Code} {o : OM} {H : Heap} {L0 : List Loc} {ls : Array Slot} {r : Unit} {o9 : OM} {v1 : Int64} (C : Cx G RX6 cX6_digestOne 3 none p s m args meth c)  (P : Hp G o s H L0) (hl : lv_has ls 3 [(0, .ref (rA G 19 0)), (1, .long v1)]) (hf : F_X6_digestOne o v1 = some (r, o9)) : W p l e rmX6_digestOne s m args below meth c H L0 0 0 (Qm G none o9 rmX6_digestOne below args s) (F0 m 0 ls []) := by
  unfold F_X6_digestOne at hf
  refine r_aload_n C hl 0 rfl rfl dX6_digestOne_0 ?_
  refine r_ldc2 C wd_1231 dX6_digestOne_1 ?_
  refine r_aload_n C hl 0 rfl rfl dX6_digestOne_4 ?_
  refine gf_19_14 C P rfl wd_893 dX6_digestOne_5 ?_
  refine r_lmul C dX6_digestOne_8 ?_
  refine r_lload_n C hl 1 rfl rfl dX6_digestOne_9 ?_
  refine r_ladd C dX6_digestOne_10 ?_
  refine pf_19_14 C P rfl wd_893 dX6_digestOne_11 hf (fun o_1 H1 L1 P hf => ?_)
  exact r_vret C P (rm := rmX6_digestOne) ⟨rfl, rfl⟩ dX6_digestOne_14 hf
theorem ctX6_digestOne (l : Launch) (G : Gd) (o : OM) (v1 : Int64)  {r : Unit} {o9 : OM} (hf : F_X6_digestOne o v1 = some (r, o9)) : Ct l yX6_digestOne cX6_digestOne 3 none rmX6_digestOne G [.ref (rA G 19 0), .long v1] o none o9 := ct_of (by decide +kernel) (Nat.le_of_ble_eq_true rfl) (fun p e s m below meth c ls C P hl => wX6_digestOne C  P hl hf)
theorem cf_X6_224 : CallF false RX6 224 yX6_digestOne cX6_digestOne 3 none 1 := ⟨wd_1227, (by rw [if_neg (by decide)]; exact ⟨wd_1229, wd_62⟩), wd_71, wd_1230, by decide, by decide +kernel⟩
theorem dX6_digestGlass_0 : Dc cX6_digestGlass 0 (.iconst 0) 1 1 := ⟨by decide +kernel, rfl⟩
theorem dX6_digestGlass_1 : Dc cX6_digestGlass 1 (.istore_n 2) 1 2 := ⟨by decide +kernel, rfl⟩
theorem dX6_digestGlass_2 : Dc cX6_digestGlass 2 (.iload_n 2) 1 3 := ⟨by decide +kernel, rfl⟩
theorem dX6_digestGlass_3 : Dc cX6_digestGlass 3 (.bipush 9) 2 5 := ⟨by decide +kernel, rfl⟩
theorem dX6_digestGlass_5 : Dj cX6_digestGlass 5 (.if_icmp .ge 20) 3 8 (20) 25 := ⟨by decide +kernel, rfl, by decide⟩
theorem dX6_digestGlass_8 : Dc cX6_digestGlass 8 (.aload_n 0) 1 9 := ⟨by decide +kernel, rfl⟩
theorem dX6_digestGlass_9 : Dc cX6_digestGlass 9 (.aload_n 0) 1 10 := ⟨by decide +kernel, rfl⟩
theorem dX6_digestGlass_10 : Dc cX6_digestGlass 10 (.iload_n 1) 1 11 := ⟨by decide +kernel, rfl⟩
theorem dX6_digestGlass_11 : Dc cX6_digestGlass 11 (.iload_n 2) 1 12 := ⟨by decide +kernel, rfl⟩
theorem dX6_digestGlass_12 : Dc cX6_digestGlass 12 (.invokevirtual 188) 3 15 := ⟨by decide +kernel, rfl⟩
theorem dX6_digestGlass_15 : Dc cX6_digestGlass 15 (.i2l) 1 16 := ⟨by decide +kernel, rfl⟩
theorem dX6_digestGlass_16 : Dc cX6_digestGlass 16 (.invokevirtual 224) 3 19 := ⟨by decide +kernel, rfl⟩
theorem dX6_digestGlass_19 : Dc cX6_digestGlass 19 (.iinc 2 1) 3 22 := ⟨by decide +kernel, rfl⟩
theorem dX6_digestGlass_22 : Dj cX6_digestGlass 22 (.goto (-20)) 3 25 (-20) 2 := ⟨by decide +kernel, rfl, by decide⟩
theorem dX6_digestGlass_25 : Dc cX6_digestGlass 25 (.iconst 0) 1 26 := ⟨by decide +kernel, rfl⟩
theorem dX6_digestGlass_26 : Dc cX6_digestGlass 26 (.istore_n 2) 1 27 := ⟨by decide +kernel, rfl⟩
theorem dX6_digestGlass_27 : Dc cX6_digestGlass 27 (.iload_n 2) 1 28 := ⟨by decide +kernel, rfl⟩
theorem dX6_digestGlass_28 : Dc cX6_digestGlass 28 (.iconst 4) 1 29 := ⟨by decide +kernel, rfl⟩
theorem dX6_digestGlass_29 : Dc cX6_digestGlass 29 (.aload_n 0) 1 30 := ⟨by decide +kernel, rfl⟩
theorem dX6_digestGlass_30 : Dc cX6_digestGlass 30 (.iload_n 1) 1 31 := ⟨by decide +kernel, rfl⟩
theorem dX6_digestGlass_31 : Dc cX6_digestGlass 31 (.bipush 7) 2 33 := ⟨by decide +kernel, rfl⟩
theorem dX6_digestGlass_33 : Dc cX6_digestGlass 33 (.invokevirtual 37) 3 36 := ⟨by decide +kernel, rfl⟩
theorem dX6_digestGlass_36 : Dc cX6_digestGlass 36 (.imul) 1 37 := ⟨by decide +kernel, rfl⟩
theorem dX6_digestGlass_37 : Dj cX6_digestGlass 37 (.if_icmp .ge 25) 3 40 (25) 62 := ⟨by decide +kernel, rfl, by decide⟩
theorem dX6_digestGlass_40 : Dc cX6_digestGlass 40 (.aload_n 0) 1 41 := ⟨by decide +kernel, rfl⟩
theorem dX6_digestGlass_41 : Dc cX6_digestGlass 41 (.aload_n 0) 1 42 := ⟨by decide +kernel, rfl⟩
theorem dX6_digestGlass_42 : Dc cX6_digestGlass 42 (.iload_n 1) 1 43 := ⟨by decide +kernel, rfl⟩
theorem dX6_digestGlass_43 : Dc cX6_digestGlass 43 (.iload_n 2) 1 44 := ⟨by decide +kernel, rfl⟩
theorem dX6_digestGlass_44 : Dc cX6_digestGlass 44 (.iconst 4) 1 45 := ⟨by decide +kernel, rfl⟩
theorem dX6_digestGlass_45 : Dc cX6_digestGlass 45 (.idiv) 1 46 := ⟨by decide +kernel, rfl⟩
theorem dX6_digestGlass_46 : Dc cX6_digestGlass 46 (.iload_n 2) 1 47 := ⟨by decide +kernel, rfl⟩
theorem dX6_digestGlass_47 : Dc cX6_digestGlass 47 (.iconst 4) 1 48 := ⟨by decide +kernel, rfl⟩
theorem dX6_digestGlass_48 : Dc cX6_digestGlass 48 (.irem) 1 49 := ⟨by decide +kernel, rfl⟩
theorem dX6_digestGlass_49 : Dc cX6_digestGlass 49 (.invokevirtual 191) 3 52 := ⟨by decide +kernel, rfl⟩
theorem dX6_digestGlass_52 : Dc cX6_digestGlass 52 (.i2l) 1 53 := ⟨by decide +kernel, rfl⟩
theorem dX6_digestGlass_53 : Dc cX6_digestGlass 53 (.invokevirtual 224) 3 56 := ⟨by decide +kernel, rfl⟩
theorem dX6_digestGlass_56 : Dc cX6_digestGlass 56 (.iinc 2 1) 3 59 := ⟨by decide +kernel, rfl⟩
theorem dX6_digestGlass_59 : Dj cX6_digestGlass 59 (.goto (-32)) 3 62 (-32) 27 := ⟨by decide +kernel, rfl, by decide⟩
theorem dX6_digestGlass_62 : Dc cX6_digestGlass 62 (.aload_n 0) 1 63 := ⟨by decide +kernel, rfl⟩
theorem dX6_digestGlass_63 : Dc cX6_digestGlass 63 (.aload_n 0) 1 64 := ⟨by decide +kernel, rfl⟩
theorem dX6_digestGlass_64 : Dc cX6_digestGlass 64 (.iload_n 1) 1 65 := ⟨by decide +kernel, rfl⟩
theorem dX6_digestGlass_65 : Dc cX6_digestGlass 65 (.iconst 0) 1 66 := ⟨by decide +kernel, rfl⟩
theorem dX6_digestGlass_66 : Dc cX6_digestGlass 66 (.invokevirtual 50) 3 69 := ⟨by decide +kernel, rfl⟩
theorem dX6_digestGlass_69 : Dc cX6_digestGlass 69 (.sipush 10000) 3 72 := ⟨by decide +kernel, rfl⟩
theorem dX6_digestGlass_72 : Dc cX6_digestGlass 72 (.iadd) 1 73 := ⟨by decide +kernel, rfl⟩
theorem dX6_digestGlass_73 : Dc cX6_digestGlass 73 (.i2l) 1 74 := ⟨by decide +kernel, rfl⟩
theorem dX6_digestGlass_74 : Dc cX6_digestGlass 74 (.invokevirtual 224) 3 77 := ⟨by decide +kernel, rfl⟩
theorem dX6_digestGlass_77 : Dc cX6_digestGlass 77 (.aload_n 0) 1 78 := ⟨by decide +kernel, rfl⟩
theorem dX6_digestGlass_78 : Dc cX6_digestGlass 78 (.aload_n 0) 1 79 := ⟨by decide +kernel, rfl⟩
theorem dX6_digestGlass_79 : Dc cX6_digestGlass 79 (.iload_n 1) 1 80 := ⟨by decide +kernel, rfl⟩
theorem dX6_digestGlass_80 : Dc cX6_digestGlass 80 (.sipush 1000) 3 83 := ⟨by decide +kernel, rfl⟩
theorem dX6_digestGlass_83 : Dc cX6_digestGlass 83 (.invokevirtual 50) 3 86 := ⟨by decide +kernel, rfl⟩
theorem dX6_digestGlass_86 : Dc cX6_digestGlass 86 (.sipush 10000) 3 89 := ⟨by decide +kernel, rfl⟩
theorem dX6_digestGlass_89 : Dc cX6_digestGlass 89 (.iadd) 1 90 := ⟨by decide +kernel, rfl⟩
theorem dX6_digestGlass_90 : Dc cX6_digestGlass 90 (.i2l) 1 91 := ⟨by decide +kernel, rfl⟩
theorem dX6_digestGlass_91 : Dc cX6_digestGlass 91 (.invokevirtual 224) 3 94 := ⟨by decide +kernel, rfl⟩
theorem dX6_digestGlass_94 : Dc cX6_digestGlass 94 (.iconst 0) 1 95 := ⟨by decide +kernel, rfl⟩
theorem dX6_digestGlass_95 : Dc cX6_digestGlass 95 (.istore_n 2) 1 96 := ⟨by decide +kernel, rfl⟩
theorem dX6_digestGlass_96 : Dc cX6_digestGlass 96 (.iload_n 2) 1 97 := ⟨by decide +kernel, rfl⟩
theorem dX6_digestGlass_97 : Dc cX6_digestGlass 97 (.bipush 6) 2 99 := ⟨by decide +kernel, rfl⟩
theorem dX6_digestGlass_99 : Dj cX6_digestGlass 99 (.if_icmp .ge 42) 3 102 (42) 141 := ⟨by decide +kernel, rfl, by decide⟩
theorem dX6_digestGlass_102 : Dc cX6_digestGlass 102 (.aload_n 0) 1 103 := ⟨by decide +kernel, rfl⟩
theorem dX6_digestGlass_103 : Dc cX6_digestGlass 103 (.aload_n 0) 1 104 := ⟨by decide +kernel, rfl⟩
theorem dX6_digestGlass_104 : Dc cX6_digestGlass 104 (.iload_n 1) 1 105 := ⟨by decide +kernel, rfl⟩
theorem dX6_digestGlass_105 : Dc cX6_digestGlass 105 (.iload_n 2) 1 106 := ⟨by decide +kernel, rfl⟩
theorem dX6_digestGlass_106 : Dc cX6_digestGlass 106 (.iconst 2) 1 107 := ⟨by decide +kernel, rfl⟩
theorem dX6_digestGlass_107 : Dj cX6_digestGlass 107 (.if_icmp .ge 7) 3 110 (7) 114 := ⟨by decide +kernel, rfl, by decide⟩
theorem dX6_digestGlass_110 : Dc cX6_digestGlass 110 (.iconst 0) 1 111 := ⟨by decide +kernel, rfl⟩
theorem dX6_digestGlass_111 : Dj cX6_digestGlass 111 (.goto 17) 3 114 (17) 128 := ⟨by decide +kernel, rfl, by decide⟩
theorem dX6_digestGlass_114 : Dc cX6_digestGlass 114 (.iload_n 2) 1 115 := ⟨by decide +kernel, rfl⟩
theorem dX6_digestGlass_115 : Dc cX6_digestGlass 115 (.iconst 4) 1 116 := ⟨by decide +kernel, rfl⟩
theorem dX6_digestGlass_116 : Dj cX6_digestGlass 116 (.if_icmp .ge 9) 3 119 (9) 125 := ⟨by decide +kernel, rfl, by decide⟩
theorem dX6_digestGlass_119 : Dc cX6_digestGlass 119 (.sipush 500) 3 122 := ⟨by decide +kernel, rfl⟩
theorem dX6_digestGlass_122 : Dj cX6_digestGlass 122 (.goto 6) 3 125 (6) 128 := ⟨by decide +kernel, rfl, by decide⟩
theorem dX6_digestGlass_125 : Dc cX6_digestGlass 125 (.sipush 1100) 3 128 := ⟨by decide +kernel, rfl⟩
theorem dX6_digestGlass_128 : Dc cX6_digestGlass 128 (.invokevirtual 179) 3 131 := ⟨by decide +kernel, rfl⟩
theorem dX6_digestGlass_131 : Dc cX6_digestGlass 131 (.i2l) 1 132 := ⟨by decide +kernel, rfl⟩
theorem dX6_digestGlass_132 : Dc cX6_digestGlass 132 (.invokevirtual 224) 3 135 := ⟨by decide +kernel, rfl⟩
theorem dX6_digestGlass_135 : Dc cX6_digestGlass 135 (.iinc 2 1) 3 138 := ⟨by decide +kernel, rfl⟩
theorem dX6_digestGlass_138 : Dj cX6_digestGlass 138 (.goto (-42)) 3 141 (-42) 96 := ⟨by decide +kernel, rfl, by decide⟩
theorem dX6_digestGlass_141 : Dc cX6_digestGlass 141 (.iconst 0) 1 142 := ⟨by decide +kernel, rfl⟩
theorem dX6_digestGlass_142 : Dc cX6_digestGlass 142 (.istore_n 2) 1 143 := ⟨by decide +kernel, rfl⟩
theorem dX6_digestGlass_143 : Dc cX6_digestGlass 143 (.iload_n 2) 1 144 := ⟨by decide +kernel, rfl⟩
theorem dX6_digestGlass_144 : Dc cX6_digestGlass 144 (.iconst 4) 1 145 := ⟨by decide +kernel, rfl⟩
theorem dX6_digestGlass_145 : Dj cX6_digestGlass 145 (.if_icmp .ge 20) 3 148 (20) 165 := ⟨by decide +kernel, rfl, by decide⟩
theorem dX6_digestGlass_148 : Dc cX6_digestGlass 148 (.aload_n 0) 1 149 := ⟨by decide +kernel, rfl⟩
theorem dX6_digestGlass_149 : Dc cX6_digestGlass 149 (.aload_n 0) 1 150 := ⟨by decide +kernel, rfl⟩
theorem dX6_digestGlass_150 : Dc cX6_digestGlass 150 (.iload_n 1) 1 151 := ⟨by decide +kernel, rfl⟩
theorem dX6_digestGlass_151 : Dc cX6_digestGlass 151 (.iload_n 2) 1 152 := ⟨by decide +kernel, rfl⟩
theorem dX6_digestGlass_152 : Dc cX6_digestGlass 152 (.invokevirtual 115) 3 155 := ⟨by decide +kernel, rfl⟩
theorem dX6_digestGlass_155 : Dc cX6_digestGlass 155 (.i2l) 1 156 := ⟨by decide +kernel, rfl⟩
theorem dX6_digestGlass_156 : Dc cX6_digestGlass 156 (.invokevirtual 224) 3 159 := ⟨by decide +kernel, rfl⟩
theorem dX6_digestGlass_159 : Dc cX6_digestGlass 159 (.iinc 2 1) 3 162 := ⟨by decide +kernel, rfl⟩
theorem dX6_digestGlass_162 : Dj cX6_digestGlass 162 (.goto (-19)) 3 165 (-19) 143 := ⟨by decide +kernel, rfl, by decide⟩
theorem dX6_digestGlass_165 : Dc cX6_digestGlass 165 (.iconst 0) 1 166 := ⟨by decide +kernel, rfl⟩
theorem dX6_digestGlass_166 : Dc cX6_digestGlass 166 (.istore_n 2) 1 167 := ⟨by decide +kernel, rfl⟩
theorem dX6_digestGlass_167 : Dc cX6_digestGlass 167 (.iload_n 2) 1 168 := ⟨by decide +kernel, rfl⟩
theorem dX6_digestGlass_168 : Dc cX6_digestGlass 168 (.aload_n 0) 1 169 := ⟨by decide +kernel, rfl⟩
theorem dX6_digestGlass_169 : Dc cX6_digestGlass 169 (.getfield 7) 3 172 := ⟨by decide +kernel, rfl⟩
theorem dX6_digestGlass_172 : Dc cX6_digestGlass 172 (.sipush 228) 3 175 := ⟨by decide +kernel, rfl⟩
theorem dX6_digestGlass_175 : Dc cX6_digestGlass 175 (.iaload) 1 176 := ⟨by decide +kernel, rfl⟩
theorem dX6_digestGlass_176 : Dj cX6_digestGlass 176 (.if_icmp .ge 23) 3 179 (23) 199 := ⟨by decide +kernel, rfl, by decide⟩
theorem dX6_digestGlass_179 : Dc cX6_digestGlass 179 (.aload_n 0) 1 180 := ⟨by decide +kernel, rfl⟩
theorem dX6_digestGlass_180 : Dc cX6_digestGlass 180 (.aload_n 0) 1 181 := ⟨by decide +kernel, rfl⟩
theorem dX6_digestGlass_181 : Dc cX6_digestGlass 181 (.iload_n 1) 1 182 := ⟨by decide +kernel, rfl⟩
theorem dX6_digestGlass_182 : Dc cX6_digestGlass 182 (.iload_n 2) 1 183 := ⟨by decide +kernel, rfl⟩
theorem dX6_digestGlass_183 : Dc cX6_digestGlass 183 (.sipush 500) 3 186 := ⟨by decide +kernel, rfl⟩
theorem dX6_digestGlass_186 : Dc cX6_digestGlass 186 (.invokevirtual 77) 3 189 := ⟨by decide +kernel, rfl⟩
theorem dX6_digestGlass_189 : Dc cX6_digestGlass 189 (.i2l) 1 190 := ⟨by decide +kernel, rfl⟩
theorem dX6_digestGlass_190 : Dc cX6_digestGlass 190 (.invokevirtual 224) 3 193 := ⟨by decide +kernel, rfl⟩
theorem dX6_digestGlass_193 : Dc cX6_digestGlass 193 (.iinc 2 1) 3 196 := ⟨by decide +kernel, rfl⟩
theorem dX6_digestGlass_196 : Dj cX6_digestGlass 196 (.goto (-29)) 3 199 (-29) 167 := ⟨by decide +kernel, rfl, by decide⟩
theorem dX6_digestGlass_199 : Dc cX6_digestGlass 199 (.aload_n 0) 1 200 := ⟨by decide +kernel, rfl⟩
theorem dX6_digestGlass_200 : Dc cX6_digestGlass 200 (.aload_n 0) 1 201 := ⟨by decide +kernel, rfl⟩
theorem dX6_digestGlass_201 : Dc cX6_digestGlass 201 (.iload_n 1) 1 202 := ⟨by decide +kernel, rfl⟩
theorem dX6_digestGlass_202 : Dc cX6_digestGlass 202 (.iconst 0) 1 203 := ⟨by decide +kernel, rfl⟩
theorem dX6_digestGlass_203 : Dc cX6_digestGlass 203 (.invokevirtual 200) 3 206 := ⟨by decide +kernel, rfl⟩
theorem dX6_digestGlass_206 : Dc cX6_digestGlass 206 (.i2l) 1 207 := ⟨by decide +kernel, rfl⟩
theorem dX6_digestGlass_207 : Dc cX6_digestGlass 207 (.invokevirtual 224) 3 210 := ⟨by decide +kernel, rfl⟩
theorem dX6_digestGlass_210 : Dc cX6_digestGlass 210 (.aload_n 0) 1 211 := ⟨by decide +kernel, rfl⟩
theorem dX6_digestGlass_211 : Dc cX6_digestGlass 211 (.aload_n 0) 1 212 := ⟨by decide +kernel, rfl⟩
theorem dX6_digestGlass_212 : Dc cX6_digestGlass 212 (.iload_n 1) 1 213 := ⟨by decide +kernel, rfl⟩
theorem dX6_digestGlass_213 : Dc cX6_digestGlass 213 (.invokevirtual 203) 3 216 := ⟨by decide +kernel, rfl⟩
theorem dX6_digestGlass_216 : Dc cX6_digestGlass 216 (.i2l) 1 217 := ⟨by decide +kernel, rfl⟩
theorem dX6_digestGlass_217 : Dc cX6_digestGlass 217 (.invokevirtual 224) 3 220 := ⟨by decide +kernel, rfl⟩
theorem dX6_digestGlass_220 : Dc cX6_digestGlass 220 (.return_) 1 221 := ⟨by decide +kernel, rfl⟩
def LX6_digestGlass_167 (k199 : OM → Option (Unit × OM)) (v1 : Int32) : Nat → OM → Int32 → Option (Unit × OM)
  | 0 => fun _ _ => none
  | n + 1 => fun o_19 v2_18 => grd (inB ((228 : Int32)) 244) (if (rd o_19 20 0 ((228 : Int32)).toNatClampNeg) ≤ v2_18 then (k199 o_19) else (bq (F_X6_overlapOf o_19 v1 v2_18 ((500 : Int32))) (fun r_20 => bn (F_X6_digestOne o_19 r_20.toInt64) (fun _ o_22 => bd (v2_18 + (1 : Int32)) (fun v2_23 : Int32 => (LX6_digestGlass_167 k199 v1 n) o_22 v2_23)))))
def LX6_digestGlass_143 (k165 : OM → Option (Unit × OM)) (v1 : Int32) : Nat → OM → Int32 → Option (Unit × OM)
  | 0 => fun _ _ => none
  | n + 1 => fun o_25 v2_24 => if ((4 : Int32)) ≤ v2_24 then (k165 o_25) else (bq (F_X6_hindrance o_25 v1 v2_24) (fun r_26 => bn (F_X6_digestOne o_25 r_26.toInt64) (fun _ o_28 => bd (v2_24 + (1 : Int32)) (fun v2_29 : Int32 => (LX6_digestGlass_143 k165 v1 n) o_28 v2_29))))
def LX6_digestGlass_96 (k141 : OM → Option (Unit × OM)) (v1 : Int32) : Nat → OM → Int32 → Option (Unit × OM)
  | 0 => fun _ _ => none
  | n + 1 => fun o_31 v2_30 => if ((6 : Int32)) ≤ v2_30 then (k141 o_31) else (bd (fun (s_32 : Int32) => bq (F_X6_correctedOr o_31 v1 s_32) (fun r_33 => bn (F_X6_digestOne o_31 r_33.toInt64) (fun _ o_35 => bd (v2_30 + (1 : Int32)) (fun v2_36 : Int32 => (LX6_digestGlass_96 k141 v1 n) o_35 v2_36)))) (fun k128 => if ((2 : Int32)) ≤ v2_30 then (if ((4 : Int32)) ≤ v2_30 then (k128 ((1100 : Int32))) else (k128 ((500 : Int32)))) else (k128 ((0 : Int32)))))
def LX6_digestGlass_27 (k62 : OM → Option (Unit × OM)) (v1 : Int32) : Nat → OM → Int32 → Option (Unit × OM)
  | 0 => fun _ _ => none
  | n + 1 => fun o_38 v2_37 => bq (F_X6_get o_38 v1 ((7 : Int32))) (fun r_39 => if (((4 : Int32)) * r_39) ≤ v2_37 then (k62 o_38) else (grd (decide (¬ ((4 : Int32)) = 0)) (grd (decide (¬ ((4 : Int32)) = 0)) (bq (F_X6_ofPoint o_38 v1 (v2_37 / ((4 : Int32))) (v2_37 - v2_37 / ((4 : Int32)) * ((4 : Int32)))) (fun r_40 => bn (F_X6_digestOne o_38 r_40.toInt64) (fun _ o_42 => bd (v2_37 + (1 : Int32)) (fun v2_43 : Int32 => (LX6_digestGlass_27 k62 v1 n) o_42 v2_43)))))))
def LX6_digestGlass_2 (k25 : OM → Option (Unit × OM)) (v1 : Int32) : Nat → OM → Int32 → Option (Unit × OM)
  | 0 => fun _ _ => none
  | n + 1 => fun o_45 v2_44 => if ((9 : Int32)) ≤ v2_44 then (k25 o_45) else (bq (F_X6_ofGlass o_45 v1 v2_44) (fun r_46 => bn (F_X6_digestOne o_45 r_46.toInt64) (fun _ o_48 => bd (v2_44 + (1 : Int32)) (fun v2_49 : Int32 => (LX6_digestGlass_2 k25 v1 n) o_48 v2_49))))
def F_X6_digestGlass (o : OM) (v1 : Int32) : Option (Unit × OM) := bd (fun (o_1 : OM) => bd (fun (o_2 : OM) => bq (F_X6_readingOf o_2 v1 ((0 : Int32))) (fun r_3 => bn (F_X6_digestOne o_2 ((r_3 + ((10000 : Int32))).toInt64)) (fun _ o_5 => bq (F_X6_readingOf o_5 v1 ((1000 : Int32))) (fun r_6 => bn (F_X6_digestOne o_5 ((r_6 + ((10000 : Int32))).toInt64)) (fun _ o_8 => bd (fun (o_9 : OM) => bd (fun (o_10 : OM) => bd (fun (o_11 : OM) => bq (F_X6_worst o_11 v1 ((0 : Int32))) (fun r_12 => bn (F_X6_digestOne o_11 r_12.toInt64) (fun _ o_14 => bq (F_X6_yearsUntilVoid o_14 v1) (fun r_15 => bn (F_X6_digestOne o_14 r_15.toInt64) (fun _ o_17 => some ((), o_17)))))) (fun k199 => LX6_digestGlass_167 k199 v1 FU o_10 ((0 : Int32)))) (fun k165 => LX6_digestGlass_143 k165 v1 FU o_9 ((0 : Int32)))) (fun k141 => LX6_digestGlass_96 k141 v1 FU o_8 ((0 : Int32)))))))) (fun k62 => LX6_digestGlass_27 k62 v1 FU o_1 ((0 : Int32)))) (fun k25 => LX6_digestGlass_2 k25 v1 FU o ((0 : Int32)))
abbrev rmX6_digestGlass : Room := { frames := 8, cells := 0, slots := 0, locals := 190 }
set_option maxHeartbeats 4000000 in
set_option maxRecDepth 100000 in
theorem lX6_digestGlass_167 {G : Gd} {p : Program} {l : Launch} {e : Env} {s : State} {m : MethodId} {args : Array Value} {below : List Frame} {meth : Method} {c : Code} {r : Unit} {o9 : OM} {v1 : Int32} (C : Cx G RX6 cX6_digestGlass 3 none p s m args meth c)  {k199 : OM → Option (Unit × OM)} (j199 : ∀ (o_11 : OM) H1 L1 ls, Hp G o_11 s H1 L1 → lv_has ls 3 [(0, .ref (rA G 19 0)), (1, .int v1)] → k199 o_11 = some (r, o9) → W p l e rmX6_digestGlass s m args below meth c H1 L1 0 0 (Qm G none o9 rmX6_digestGlass below args s) (F0 m 199 ls [])) : ∀ (n : Nat) (o_19 : OM) (v2_18 : Int32) H1 L1 ls, Hp G o_19 s H1 L1 → lv_has ls 3 [(0, .ref (rA G 19 0)), (1, .int v1), (2, .int v2_18)] → LX6_digestGlass_167 k199 v1 n o_19 v2_18 = some (r, o9) → W p l e rmX6_digestGlass s m args below meth c H1 L1 0 0 (Qm G none o9 rmX6_digestGlass below args s) (F0 m 167 ls []) := by
  intro n
  induction n with
  | zero =>
    intro o_19 v2_18 H1 L1 ls P hl hf
    exact nomatch hf
  | succ n ih =>
    intro o_19 v2_18 H1 L1 ls P hl hf
    rw [LX6_digestGlass_167.eq_2] at hf
    refine r_iload_n C hl 2 rfl rfl dX6_digestGlass_167 ?_
    refine r_aload_n C hl 0 rfl rfl dX6_digestGlass_168 ?_
    refine gf_19_1 C P rfl wd_880 dX6_digestGlass_169 ?_
    refine r_sipush C (v := 228) (by decide) dX6_digestGlass_172 ?_
    refine r_iald C P (k := 20) (i := 0) (n := 244) (fun _ _ => rfl) rfl dX6_digestGlass_175 hf (fun hf => ?_)
    refine r_icmp_ge C dX6_digestGlass_176 hf (fun hf => ?_) (fun hf => ?_)
    · exact j199 o_19 _ _ _ P (lv_sub hl [0, 1] rfl) hf
    · refine r_aload_n C hl 0 rfl rfl dX6_digestGlass_179 ?_
      refine r_aload_n C hl 0 rfl rfl dX6_digestGlass_180 ?_
      refine r_iload_n C hl 1 rfl rfl dX6_digestGlass_181 ?_
      refine r_iload_n C hl 2 rfl rfl dX6_digestGlass_182 ?_
      refine r_sipush C (v := 500) (by decide) dX6_digestGlass_183 ?_
      refine r_qVi C P cf_X6_77 (rm := rmX6_overlapOf) 19 0 (fun _ _ => ⟨_, rfl⟩) rfl rfl rfl [.int v1, .int v2_18, .int ((500 : Int32))] [.ref (rA G 19 0)] hf (fun _ h => ctX6_overlapOf l G o_19 v1 v2_18 ((500 : Int32)) h) ⟨rfl, rfl⟩ ⟨Nat.le_of_ble_eq_true rfl, Nat.le_of_ble_eq_true rfl⟩ ⟨Nat.le_of_ble_eq_true rfl, Nat.le_of_ble_eq_true rfl⟩ rfl rfl hl.1 (Nat.le_of_ble_eq_true rfl) dX6_digestGlass_186 (fun r_20 H1 L1 P hf => ?_)
      refine r_i2l C dX6_digestGlass_189 ?_
      refine r_cVv C P cf_X6_224 (rm := rmX6_digestOne) 19 0 (fun _ _ => ⟨_, rfl⟩) rfl rfl rfl [.long r_20.toInt64] [] hf (fun _ _ h => ctX6_digestOne l G o_19 r_20.toInt64 h) ⟨rfl, rfl⟩ ⟨Nat.le_of_ble_eq_true rfl, Nat.le_of_ble_eq_true rfl⟩ ⟨Nat.le_of_ble_eq_true rfl, Nat.le_of_ble_eq_true rfl⟩ rfl rfl hl.1 (Nat.le_of_ble_eq_true rfl) dX6_digestGlass_190 (fun _ o_22 H1 L1 P hf => ?_)
      refine r_iinc C (fun v2_23 => [(2, .int v2_23), (0, .ref (rA G 19 0)), (1, .int v1)]) (w := 1) 2 hl rfl (by decide) (by decide) (fun _ => rfl) dX6_digestGlass_193 hf (fun v2_23 ls hl hf => ?_)
      refine r_goto C dX6_digestGlass_196 ?_
      exact ih o_22 v2_23 _ _ _ P (lv_sub hl [1, 2, 0] rfl) hf
set_option maxHeartbeats 4000000 in
set_option maxRecDepth 100000 in
theorem lX6_digestGlass_143 {G : Gd} {p : Program} {l : Launch} {e : Env} {s : State} {m : MethodId} {args : Array Value} {below : List Frame} {meth : Method} {c : Code} {r : Unit} {o9 : OM} {v1 : Int32} (C : Cx G RX6 cX6_digestGlass 3 none p s m args meth c)  {k165 : OM → Option (Unit × OM)} (j165 : ∀ (o_10 : OM) H1 L1 ls, Hp G o_10 s H1 L1 → lv_has ls 3 [(0, .ref (rA G 19 0)), (1, .int v1)] → k165 o_10 = some (r, o9) → W p l e rmX6_digestGlass s m args below meth c H1 L1 0 0 (Qm G none o9 rmX6_digestGlass below args s) (F0 m 165 ls [])) : ∀ (n : Nat) (o_25 : OM) (v2_24 : Int32) H1 L1 ls, Hp G o_25 s H1 L1 → lv_has ls 3 [(0, .ref (rA G 19 0)), (1, .int v1), (2, .int v2_24)] → LX6_digestGlass_143 k165 v1 n o_25 v2_24 = some (r, o9) → W p l e rmX6_digestGlass s m args below meth c H1 L1 0 0 (Qm G none o9 rmX6_digestGlass below args s) (F0 m 143 ls []) := by
  intro n
  induction n with
  | zero =>
    intro o_25 v2_24 H1 L1 ls P hl hf
    exact nomatch hf
  | succ n ih =>
    intro o_25 v2_24 H1 L1 ls P hl hf
    rw [LX6_digestGlass_143.eq_2] at hf
    refine r_iload_n C hl 2 rfl rfl dX6_digestGlass_143 ?_
    refine r_iconst C (v := 4) (by decide) dX6_digestGlass_144 ?_
    refine r_icmp_ge C dX6_digestGlass_145 hf (fun hf => ?_) (fun hf => ?_)
    · exact j165 o_25 _ _ _ P (lv_sub hl [0, 1] rfl) hf
    · refine r_aload_n C hl 0 rfl rfl dX6_digestGlass_148 ?_
      refine r_aload_n C hl 0 rfl rfl dX6_digestGlass_149 ?_
      refine r_iload_n C hl 1 rfl rfl dX6_digestGlass_150 ?_
      refine r_iload_n C hl 2 rfl rfl dX6_digestGlass_151 ?_
      refine r_qVi C P cf_X6_115 (rm := rmX6_hindrance) 19 0 (fun _ _ => ⟨_, rfl⟩) rfl rfl rfl [.int v1, .int v2_24] [.ref (rA G 19 0)] hf (fun _ h => ctX6_hindrance l G o_25 v1 v2_24 h) ⟨rfl, rfl⟩ ⟨Nat.le_of_ble_eq_true rfl, Nat.le_of_ble_eq_true rfl⟩ ⟨Nat.le_of_ble_eq_true rfl, Nat.le_of_ble_eq_true rfl⟩ rfl rfl hl.1 (Nat.le_of_ble_eq_true rfl) dX6_digestGlass_152 (fun r_26 H1 L1 P hf => ?_)
      refine r_i2l C dX6_digestGlass_155 ?_
      refine r_cVv C P cf_X6_224 (rm := rmX6_digestOne) 19 0 (fun _ _ => ⟨_, rfl⟩) rfl rfl rfl [.long r_26.toInt64] [] hf (fun _ _ h => ctX6_digestOne l G o_25 r_26.toInt64 h) ⟨rfl, rfl⟩ ⟨Nat.le_of_ble_eq_true rfl, Nat.le_of_ble_eq_true rfl⟩ ⟨Nat.le_of_ble_eq_true rfl, Nat.le_of_ble_eq_true rfl⟩ rfl rfl hl.1 (Nat.le_of_ble_eq_true rfl) dX6_digestGlass_156 (fun _ o_28 H1 L1 P hf => ?_)
      refine r_iinc C (fun v2_29 => [(2, .int v2_29), (0, .ref (rA G 19 0)), (1, .int v1)]) (w := 1) 2 hl rfl (by decide) (by decide) (fun _ => rfl) dX6_digestGlass_159 hf (fun v2_29 ls hl hf => ?_)
      refine r_goto C dX6_digestGlass_162 ?_
      exact ih o_28 v2_29 _ _ _ P (lv_sub hl [1, 2, 0] rfl) hf
set_option maxHeartbeats 4000000 in
set_option maxRecDepth 100000 in
theorem lX6_digestGlass_96 {G : Gd} {p : Program} {l : Launch} {e : Env} {s : State} {m : MethodId} {args : Array Value} {below : List Frame} {meth : Method} {c : Code} {r : Unit} {o9 : OM} {v1 : Int32} (C : Cx G RX6 cX6_digestGlass 3 none p s m args meth c)  {k141 : OM → Option (Unit × OM)} (j141 : ∀ (o_9 : OM) H1 L1 ls, Hp G o_9 s H1 L1 → lv_has ls 3 [(0, .ref (rA G 19 0)), (1, .int v1)] → k141 o_9 = some (r, o9) → W p l e rmX6_digestGlass s m args below meth c H1 L1 0 0 (Qm G none o9 rmX6_digestGlass below args s) (F0 m 141 ls [])) : ∀ (n : Nat) (o_31 : OM) (v2_30 : Int32) H1 L1 ls, Hp G o_31 s H1 L1 → lv_has ls 3 [(0, .ref (rA G 19 0)), (1, .int v1), (2, .int v2_30)] → LX6_digestGlass_96 k141 v1 n o_31 v2_30 = some (r, o9) → W p l e rmX6_digestGlass s m args below meth c H1 L1 0 0 (Qm G none o9 rmX6_digestGlass below args s) (F0 m 96 ls []) := by
  intro n
  induction n with
  | zero =>
    intro o_31 v2_30 H1 L1 ls P hl hf
    exact nomatch hf
  | succ n ih =>
    intro o_31 v2_30 H1 L1 ls P hl hf
    rw [LX6_digestGlass_96.eq_2] at hf
    refine r_iload_n C hl 2 rfl rfl dX6_digestGlass_96 ?_
    refine r_bipush C (v := 6) (by decide) dX6_digestGlass_97 ?_
    refine r_icmp_ge C dX6_digestGlass_99 hf (fun hf => ?_) (fun hf => ?_)
    · exact j141 o_31 _ _ _ P (lv_sub hl [0, 1] rfl) hf
    · refine r_aload_n C hl 0 rfl rfl dX6_digestGlass_102 ?_
      refine r_aload_n C hl 0 rfl rfl dX6_digestGlass_103 ?_
      refine r_iload_n C hl 1 rfl rfl dX6_digestGlass_104 ?_
      refine r_iload_n C hl 2 rfl rfl dX6_digestGlass_105 ?_
      refine r_iconst C (v := 2) (by decide) dX6_digestGlass_106 ?_
      refine r_jn (fun k128 : Int32 → Option (Unit × OM) => ∀ (s_32 : Int32) H1 L1 ls, Hp G o_31 s H1 L1 → lv_has ls 3 [(0, .ref (rA G 19 0)), (1, .int v1), (2, .int v2_30)] → k128 s_32 = some (r, o9) → W p l e rmX6_digestGlass s m args below meth c H1 L1 0 0 (Qm G none o9 rmX6_digestGlass below args s) (F0 m 128 ls [.int s_32, .int v1, .ref (rA G 19 0), .ref (rA G 19 0)])) hf ?_ (fun k128 j128 hf => ?_)
      · intro s_32 H1 L1 ls  P hl hf
        refine r_qVi C P cf_X6_179 (rm := rmX6_correctedOr) 19 0 (fun _ _ => ⟨_, rfl⟩) rfl rfl rfl [.int v1, .int s_32] [.ref (rA G 19 0)] hf (fun _ h => ctX6_correctedOr l G o_31 v1 s_32 h) ⟨rfl, rfl⟩ ⟨Nat.le_of_ble_eq_true rfl, Nat.le_of_ble_eq_true rfl⟩ ⟨Nat.le_of_ble_eq_true rfl, Nat.le_of_ble_eq_true rfl⟩ rfl rfl hl.1 (Nat.le_of_ble_eq_true rfl) dX6_digestGlass_128 (fun r_33 H1 L1 P hf => ?_)
        refine r_i2l C dX6_digestGlass_131 ?_
        refine r_cVv C P cf_X6_224 (rm := rmX6_digestOne) 19 0 (fun _ _ => ⟨_, rfl⟩) rfl rfl rfl [.long r_33.toInt64] [] hf (fun _ _ h => ctX6_digestOne l G o_31 r_33.toInt64 h) ⟨rfl, rfl⟩ ⟨Nat.le_of_ble_eq_true rfl, Nat.le_of_ble_eq_true rfl⟩ ⟨Nat.le_of_ble_eq_true rfl, Nat.le_of_ble_eq_true rfl⟩ rfl rfl hl.1 (Nat.le_of_ble_eq_true rfl) dX6_digestGlass_132 (fun _ o_35 H1 L1 P hf => ?_)
        refine r_iinc C (fun v2_36 => [(2, .int v2_36), (0, .ref (rA G 19 0)), (1, .int v1)]) (w := 1) 2 hl rfl (by decide) (by decide) (fun _ => rfl) dX6_digestGlass_135 hf (fun v2_36 ls hl hf => ?_)
        refine r_goto C dX6_digestGlass_138 ?_
        exact ih o_35 v2_36 _ _ _ P (lv_sub hl [1, 2, 0] rfl) hf
      refine r_icmp_ge C dX6_digestGlass_107 hf (fun hf => ?_) (fun hf => ?_)
      · refine r_iload_n C hl 2 rfl rfl dX6_digestGlass_114 ?_
        refine r_iconst C (v := 4) (by decide) dX6_digestGlass_115 ?_
        refine r_icmp_ge C dX6_digestGlass_116 hf (fun hf => ?_) (fun hf => ?_)
        · refine r_sipush C (v := 1100) (by decide) dX6_digestGlass_125 ?_
          exact j128 ((1100 : Int32)) _ _ _ P (lv_sub hl [0, 1, 2] rfl) hf
        · refine r_sipush C (v := 500) (by decide) dX6_digestGlass_119 ?_
          refine r_goto C dX6_digestGlass_122 ?_
          exact j128 ((500 : Int32)) _ _ _ P (lv_sub hl [0, 1, 2] rfl) hf
      · refine r_iconst C (v := 0) (by decide) dX6_digestGlass_110 ?_
        refine r_goto C dX6_digestGlass_111 ?_
        exact j128 ((0 : Int32)) _ _ _ P (lv_sub hl [0, 1, 2] rfl) hf
set_option maxHeartbeats 4000000 in
set_option maxRecDepth 100000 in
theorem lX6_digestGlass_27 {G : Gd} {p : Program} {l : Launch} {e : Env} {s : State} {m : MethodId} {args : Array Value} {below : List Frame} {meth : Method} {c : Code} {r : Unit} {o9 : OM} {v1 : Int32} (C : Cx G RX6 cX6_digestGlass 3 none p s m args meth c)  {k62 : OM → Option (Unit × OM)} (j62 : ∀ (o_2 : OM) H1 L1 ls, Hp G o_2 s H1 L1 → lv_has ls 3 [(0, .ref (rA G 19 0)), (1, .int v1)] → k62 o_2 = some (r, o9) → W p l e rmX6_digestGlass s m args below meth c H1 L1 0 0 (Qm G none o9 rmX6_digestGlass below args s) (F0 m 62 ls [])) : ∀ (n : Nat) (o_38 : OM) (v2_37 : Int32) H1 L1 ls, Hp G o_38 s H1 L1 → lv_has ls 3 [(0, .ref (rA G 19 0)), (1, .int v1), (2, .int v2_37)] → LX6_digestGlass_27 k62 v1 n o_38 v2_37 = some (r, o9) → W p l e rmX6_digestGlass s m args below meth c H1 L1 0 0 (Qm G none o9 rmX6_digestGlass below args s) (F0 m 27 ls []) := by
  intro n
  induction n with
  | zero =>
    intro o_38 v2_37 H1 L1 ls P hl hf
    exact nomatch hf
  | succ n ih =>
    intro o_38 v2_37 H1 L1 ls P hl hf
    rw [LX6_digestGlass_27.eq_2] at hf
    refine r_iload_n C hl 2 rfl rfl dX6_digestGlass_27 ?_
    refine r_iconst C (v := 4) (by decide) dX6_digestGlass_28 ?_
    refine r_aload_n C hl 0 rfl rfl dX6_digestGlass_29 ?_
    refine r_iload_n C hl 1 rfl rfl dX6_digestGlass_30 ?_
    refine r_bipush C (v := 7) (by decide) dX6_digestGlass_31 ?_
    refine r_qVi C P cf_X6_37 (rm := rmX6_get) 19 0 (fun _ _ => ⟨_, rfl⟩) rfl rfl rfl [.int v1, .int ((7 : Int32))] [.int ((4 : Int32)), .int v2_37] hf (fun _ h => ctX6_get l G o_38 v1 ((7 : Int32)) h) ⟨rfl, rfl⟩ ⟨Nat.le_of_ble_eq_true rfl, Nat.le_of_ble_eq_true rfl⟩ ⟨Nat.le_of_ble_eq_true rfl, Nat.le_of_ble_eq_true rfl⟩ rfl rfl hl.1 (Nat.le_of_ble_eq_true rfl) dX6_digestGlass_33 (fun r_39 H1 L1 P hf => ?_)
    refine r_imul C dX6_digestGlass_36 ?_
    refine r_icmp_ge C dX6_digestGlass_37 hf (fun hf => ?_) (fun hf => ?_)
    · exact j62 o_38 _ _ _ P (lv_sub hl [0, 1] rfl) hf
    · refine r_aload_n C hl 0 rfl rfl dX6_digestGlass_40 ?_
      refine r_aload_n C hl 0 rfl rfl dX6_digestGlass_41 ?_
      refine r_iload_n C hl 1 rfl rfl dX6_digestGlass_42 ?_
      refine r_iload_n C hl 2 rfl rfl dX6_digestGlass_43 ?_
      refine r_iconst C (v := 4) (by decide) dX6_digestGlass_44 ?_
      refine r_idiv C dX6_digestGlass_45 hf (fun hf => ?_)
      refine r_iload_n C hl 2 rfl rfl dX6_digestGlass_46 ?_
      refine r_iconst C (v := 4) (by decide) dX6_digestGlass_47 ?_
      refine r_irem C dX6_digestGlass_48 hf (fun hf => ?_)
      refine r_qVi C P cf_X6_191 (rm := rmX6_ofPoint) 19 0 (fun _ _ => ⟨_, rfl⟩) rfl rfl rfl [.int v1, .int (v2_37 / ((4 : Int32))), .int (v2_37 - v2_37 / ((4 : Int32)) * ((4 : Int32)))] [.ref (rA G 19 0)] hf (fun _ h => ctX6_ofPoint l G o_38 v1 (v2_37 / ((4 : Int32))) (v2_37 - v2_37 / ((4 : Int32)) * ((4 : Int32))) h) ⟨rfl, rfl⟩ ⟨Nat.le_of_ble_eq_true rfl, Nat.le_of_ble_eq_true rfl⟩ ⟨Nat.le_of_ble_eq_true rfl, Nat.le_of_ble_eq_true rfl⟩ rfl rfl hl.1 (Nat.le_of_ble_eq_true rfl) dX6_digestGlass_49 (fun r_40 H1 L1 P hf => ?_)
      refine r_i2l C dX6_digestGlass_52 ?_
      refine r_cVv C P cf_X6_224 (rm := rmX6_digestOne) 19 0 (fun _ _ => ⟨_, rfl⟩) rfl rfl rfl [.long r_40.toInt64] [] hf (fun _ _ h => ctX6_digestOne l G o_38 r_40.toInt64 h) ⟨rfl, rfl⟩ ⟨Nat.le_of_ble_eq_true rfl, Nat.le_of_ble_eq_true rfl⟩ ⟨Nat.le_of_ble_eq_true rfl, Nat.le_of_ble_eq_true rfl⟩ rfl rfl hl.1 (Nat.le_of_ble_eq_true rfl) dX6_digestGlass_53 (fun _ o_42 H1 L1 P hf => ?_)
      refine r_iinc C (fun v2_43 => [(2, .int v2_43), (0, .ref (rA G 19 0)), (1, .int v1)]) (w := 1) 2 hl rfl (by decide) (by decide) (fun _ => rfl) dX6_digestGlass_56 hf (fun v2_43 ls hl hf => ?_)
      refine r_goto C dX6_digestGlass_59 ?_
      exact ih o_42 v2_43 _ _ _ P (lv_sub hl [1, 2, 0] rfl) hf
set_option maxHeartbeats 4000000 in
set_option maxRecDepth 100000 in
theorem lX6_digestGlass_2 {G : Gd} {p : Program} {l : Launch} {e : Env} {s : State} {m : MethodId} {args : Array Value} {below : List Frame} {meth : Method} {c : Code} {r : Unit} {o9 : OM} {v1 : Int32} (C : Cx G RX6 cX6_digestGlass 3 none p s m args meth c)  {k25 : OM → Option (Unit × OM)} (j25 : ∀ (o_1 : OM) H1 L1 ls, Hp G o_1 s H1 L1 → lv_has ls 3 [(0, .ref (rA G 19 0)), (1, .int v1)] → k25 o_1 = some (r, o9) → W p l e rmX6_digestGlass s m args below meth c H1 L1 0 0 (Qm G none o9 rmX6_digestGlass below args s) (F0 m 25 ls [])) : ∀ (n : Nat) (o_45 : OM) (v2_44 : Int32) H1 L1 ls, Hp G o_45 s H1 L1 → lv_has ls 3 [(0, .ref (rA G 19 0)), (1, .int v1), (2, .int v2_44)] → LX6_digestGlass_2 k25 v1 n o_45 v2_44 = some (r, o9) → W p l e rmX6_digestGlass s m args below meth c H1 L1 0 0 (Qm G none o9 rmX6_digestGlass below args s) (F0 m 2 ls []) := by
  intro n
  induction n with
  | zero =>
    intro o_45 v2_44 H1 L1 ls P hl hf
    exact nomatch hf
  | succ n ih =>
    intro o_45 v2_44 H1 L1 ls P hl hf
    rw [LX6_digestGlass_2.eq_2] at hf
    refine r_iload_n C hl 2 rfl rfl dX6_digestGlass_2 ?_
    refine r_bipush C (v := 9) (by decide) dX6_digestGlass_3 ?_
    refine r_icmp_ge C dX6_digestGlass_5 hf (fun hf => ?_) (fun hf => ?_)
    · exact j25 o_45 _ _ _ P (lv_sub hl [0, 1] rfl) hf
    · refine r_aload_n C hl 0 rfl rfl dX6_digestGlass_8 ?_
      refine r_aload_n C hl 0 rfl rfl dX6_digestGlass_9 ?_
      refine r_iload_n C hl 1 rfl rfl dX6_digestGlass_10 ?_
      refine r_iload_n C hl 2 rfl rfl dX6_digestGlass_11 ?_
      refine r_qVi C P cf_X6_188 (rm := rmX6_ofGlass) 19 0 (fun _ _ => ⟨_, rfl⟩) rfl rfl rfl [.int v1, .int v2_44] [.ref (rA G 19 0)] hf (fun _ h => ctX6_ofGlass l G o_45 v1 v2_44 h) ⟨rfl, rfl⟩ ⟨Nat.le_of_ble_eq_true rfl, Nat.le_of_ble_eq_true rfl⟩ ⟨Nat.le_of_ble_eq_true rfl, Nat.le_of_ble_eq_true rfl⟩ rfl rfl hl.1 (Nat.le_of_ble_eq_true rfl) dX6_digestGlass_12 (fun r_46 H1 L1 P hf => ?_)
      refine r_i2l C dX6_digestGlass_15 ?_
      refine r_cVv C P cf_X6_224 (rm := rmX6_digestOne) 19 0 (fun _ _ => ⟨_, rfl⟩) rfl rfl rfl [.long r_46.toInt64] [] hf (fun _ _ h => ctX6_digestOne l G o_45 r_46.toInt64 h) ⟨rfl, rfl⟩ ⟨Nat.le_of_ble_eq_true rfl, Nat.le_of_ble_eq_true rfl⟩ ⟨Nat.le_of_ble_eq_true rfl, Nat.le_of_ble_eq_true rfl⟩ rfl rfl hl.1 (Nat.le_of_ble_eq_true rfl) dX6_digestGlass_16 (fun _ o_48 H1 L1 P hf => ?_)
      refine r_iinc C (fun v2_49 => [(2, .int v2_49), (0, .ref (rA G 19 0)), (1, .int v1)]) (w := 1) 2 hl rfl (by decide) (by decide) (fun _ => rfl) dX6_digestGlass_19 hf (fun v2_49 ls hl hf => ?_)
      refine r_goto C dX6_digestGlass_22 ?_
      exact ih o_48 v2_49 _ _ _ P (lv_sub hl [1, 2, 0] rfl) hf
set_option maxHeartbeats 4000000 in
set_option maxRecDepth 100000 in
theorem wX6_digestGlass {G : Gd} {p : Program} {l : Launch} {e : Env} {s : State} {m : MethodId} {args : Array Value} {below : List Frame} {meth : Method} {c : Code} {o : OM} {H : Heap} {L0 : List Loc} {ls : Array Slot} {r : Unit} {o9 : OM} {v1 : Int32} (C : Cx G RX6 cX6_digestGlass 3 none p s m args meth c)  (P : Hp G o s H L0) (hl : lv_has ls 3 [(0, .ref (rA G 19 0)), (1, .int v1)]) (hf : F_X6_digestGlass o v1 = some (r, o9)) : W p l e rmX6_digestGlass s m args below meth c H L0 0 0 (Qm G none o9 rmX6_digestGlass below args s) (F0 m 0 ls []) := by
  unfold F_X6_digestGlass at hf
  refine r_iconst C (v := 0) (by decide) dX6_digestGlass_0 ?_
  refine r_istore_n C [(2, .int ((0 : Int32))), (0, .ref (rA G 19 0)), (1, .int v1)] hl (by decide) rfl rfl dX6_digestGlass_1 (fun ls hl => ?_)
  refine r_jn (fun k25 : OM → Option (Unit × OM) => ∀ (o_1 : OM) H1 L1 ls, Hp G o_1 s H1 L1 → lv_has ls 3 [(0, .ref (rA G 19 0)), (1, .int v1)] → k25 o_1 = some (r, o9) → W p l e rmX6_digestGlass s m args below meth c H1 L1 0 0 (Qm G none o9 rmX6_digestGlass below args s) (F0 m 25 ls [])) hf ?_ (fun k25 j25 hf => ?_)
  · intro o_1 H1 L1 ls  P hl hf
    refine r_iconst C (v := 0) (by decide) dX6_digestGlass_25 ?_
    refine r_istore_n C [(2, .int ((0 : Int32))), (0, .ref (rA G 19 0)), (1, .int v1)] hl (by decide) rfl rfl dX6_digestGlass_26 (fun ls hl => ?_)
    refine r_jn (fun k62 : OM → Option (Unit × OM) => ∀ (o_2 : OM) H1 L1 ls, Hp G o_2 s H1 L1 → lv_has ls 3 [(0, .ref (rA G 19 0)), (1, .int v1)] → k62 o_2 = some (r, o9) → W p l e rmX6_digestGlass s m args below meth c H1 L1 0 0 (Qm G none o9 rmX6_digestGlass below args s) (F0 m 62 ls [])) hf ?_ (fun k62 j62 hf => ?_)
    · intro o_2 H1 L1 ls  P hl hf
      refine r_aload_n C hl 0 rfl rfl dX6_digestGlass_62 ?_
      refine r_aload_n C hl 0 rfl rfl dX6_digestGlass_63 ?_
      refine r_iload_n C hl 1 rfl rfl dX6_digestGlass_64 ?_
      refine r_iconst C (v := 0) (by decide) dX6_digestGlass_65 ?_
      refine r_qVi C P cf_X6_50 (rm := rmX6_readingOf) 19 0 (fun _ _ => ⟨_, rfl⟩) rfl rfl rfl [.int v1, .int ((0 : Int32))] [.ref (rA G 19 0)] hf (fun _ h => ctX6_readingOf l G o_2 v1 ((0 : Int32)) h) ⟨rfl, rfl⟩ ⟨Nat.le_of_ble_eq_true rfl, Nat.le_of_ble_eq_true rfl⟩ ⟨Nat.le_of_ble_eq_true rfl, Nat.le_of_ble_eq_true rfl⟩ rfl rfl hl.1 (Nat.le_of_ble_eq_true rfl) dX6_digestGlass_66 (fun r_3 H1 L1 P hf => ?_)
      refine r_sipush C (v := 10000) (by decide) dX6_digestGlass_69 ?_
      refine r_iadd2 C dX6_digestGlass_72 ?_
      refine r_i2l C dX6_digestGlass_73 ?_
      refine r_cVv C P cf_X6_224 (rm := rmX6_digestOne) 19 0 (fun _ _ => ⟨_, rfl⟩) rfl rfl rfl [.long ((r_3 + ((10000 : Int32))).toInt64)] [] hf (fun _ _ h => ctX6_digestOne l G o_2 ((r_3 + ((10000 : Int32))).toInt64) h) ⟨rfl, rfl⟩ ⟨Nat.le_of_ble_eq_true rfl, Nat.le_of_ble_eq_true rfl⟩ ⟨Nat.le_of_ble_eq_true rfl, Nat.le_of_ble_eq_true rfl⟩ rfl rfl hl.1 (Nat.le_of_ble_eq_true rfl) dX6_digestGlass_74 (fun _ o_5 H1 L1 P hf => ?_)
      refine r_aload_n C hl 0 rfl rfl dX6_digestGlass_77 ?_
      refine r_aload_n C hl 0 rfl rfl dX6_digestGlass_78 ?_
      refine r_iload_n C hl 1 rfl rfl dX6_digestGlass_79 ?_
      refine r_sipush C (v := 1000) (by decide) dX6_digestGlass_80 ?_
      refine r_qVi C P cf_X6_50 (rm := rmX6_readingOf) 19 0 (fun _ _ => ⟨_, rfl⟩) rfl rfl rfl [.int v1, .int ((1000 : Int32))] [.ref (rA G 19 0)] hf (fun _ h => ctX6_readingOf l G o_5 v1 ((1000 : Int32)) h) ⟨rfl, rfl⟩ ⟨Nat.le_of_ble_eq_true rfl, Nat.le_of_ble_eq_true rfl⟩ ⟨Nat.le_of_ble_eq_true rfl, Nat.le_of_ble_eq_true rfl⟩ rfl rfl hl.1 (Nat.le_of_ble_eq_true rfl) dX6_digestGlass_83 (fun r_6 H1 L1 P hf => ?_)
      refine r_sipush C (v := 10000) (by decide) dX6_digestGlass_86 ?_
      refine r_iadd2 C dX6_digestGlass_89 ?_
      refine r_i2l C dX6_digestGlass_90 ?_
      refine r_cVv C P cf_X6_224 (rm := rmX6_digestOne) 19 0 (fun _ _ => ⟨_, rfl⟩) rfl rfl rfl [.long ((r_6 + ((10000 : Int32))).toInt64)] [] hf (fun _ _ h => ctX6_digestOne l G o_5 ((r_6 + ((10000 : Int32))).toInt64) h) ⟨rfl, rfl⟩ ⟨Nat.le_of_ble_eq_true rfl, Nat.le_of_ble_eq_true rfl⟩ ⟨Nat.le_of_ble_eq_true rfl, Nat.le_of_ble_eq_true rfl⟩ rfl rfl hl.1 (Nat.le_of_ble_eq_true rfl) dX6_digestGlass_91 (fun _ o_8 H1 L1 P hf => ?_)
      refine r_iconst C (v := 0) (by decide) dX6_digestGlass_94 ?_
      refine r_istore_n C [(2, .int ((0 : Int32))), (0, .ref (rA G 19 0)), (1, .int v1)] hl (by decide) rfl rfl dX6_digestGlass_95 (fun ls hl => ?_)
      refine r_jn (fun k141 : OM → Option (Unit × OM) => ∀ (o_9 : OM) H1 L1 ls, Hp G o_9 s H1 L1 → lv_has ls 3 [(0, .ref (rA G 19 0)), (1, .int v1)] → k141 o_9 = some (r, o9) → W p l e rmX6_digestGlass s m args below meth c H1 L1 0 0 (Qm G none o9 rmX6_digestGlass below args s) (F0 m 141 ls [])) hf ?_ (fun k141 j141 hf => ?_)
      · intro o_9 H1 L1 ls  P hl hf
        refine r_iconst C (v := 0) (by decide) dX6_digestGlass_141 ?_
        refine r_istore_n C [(2, .int ((0 : Int32))), (0, .ref (rA G 19 0)), (1, .int v1)] hl (by decide) rfl rfl dX6_digestGlass_142 (fun ls hl => ?_)
        refine r_jn (fun k165 : OM → Option (Unit × OM) => ∀ (o_10 : OM) H1 L1 ls, Hp G o_10 s H1 L1 → lv_has ls 3 [(0, .ref (rA G 19 0)), (1, .int v1)] → k165 o_10 = some (r, o9) → W p l e rmX6_digestGlass s m args below meth c H1 L1 0 0 (Qm G none o9 rmX6_digestGlass below args s) (F0 m 165 ls [])) hf ?_ (fun k165 j165 hf => ?_)
        · intro o_10 H1 L1 ls  P hl hf
          refine r_iconst C (v := 0) (by decide) dX6_digestGlass_165 ?_
          refine r_istore_n C [(2, .int ((0 : Int32))), (0, .ref (rA G 19 0)), (1, .int v1)] hl (by decide) rfl rfl dX6_digestGlass_166 (fun ls hl => ?_)
          refine r_jn (fun k199 : OM → Option (Unit × OM) => ∀ (o_11 : OM) H1 L1 ls, Hp G o_11 s H1 L1 → lv_has ls 3 [(0, .ref (rA G 19 0)), (1, .int v1)] → k199 o_11 = some (r, o9) → W p l e rmX6_digestGlass s m args below meth c H1 L1 0 0 (Qm G none o9 rmX6_digestGlass below args s) (F0 m 199 ls [])) hf ?_ (fun k199 j199 hf => ?_)
          · intro o_11 H1 L1 ls  P hl hf
            refine r_aload_n C hl 0 rfl rfl dX6_digestGlass_199 ?_
            refine r_aload_n C hl 0 rfl rfl dX6_digestGlass_200 ?_
            refine r_iload_n C hl 1 rfl rfl dX6_digestGlass_201 ?_
            refine r_iconst C (v := 0) (by decide) dX6_digestGlass_202 ?_
            refine r_qVi C P cf_X6_200 (rm := rmX6_worst) 19 0 (fun _ _ => ⟨_, rfl⟩) rfl rfl rfl [.int v1, .int ((0 : Int32))] [.ref (rA G 19 0)] hf (fun _ h => ctX6_worst l G o_11 v1 ((0 : Int32)) h) ⟨rfl, rfl⟩ ⟨Nat.le_of_ble_eq_true rfl, Nat.le_of_ble_eq_true rfl⟩ ⟨Nat.le_of_ble_eq_true rfl, Nat.le_of_ble_eq_true rfl⟩ rfl rfl hl.1 (Nat.le_of_ble_eq_true rfl) dX6_digestGlass_203 (fun r_12 H1 L1 P hf => ?_)
            refine r_i2l C dX6_digestGlass_206 ?_
            refine r_cVv C P cf_X6_224 (rm := rmX6_digestOne) 19 0 (fun _ _ => ⟨_, rfl⟩) rfl rfl rfl [.long r_12.toInt64] [] hf (fun _ _ h => ctX6_digestOne l G o_11 r_12.toInt64 h) ⟨rfl, rfl⟩ ⟨Nat.le_of_ble_eq_true rfl, Nat.le_of_ble_eq_true rfl⟩ ⟨Nat.le_of_ble_eq_true rfl, Nat.le_of_ble_eq_true rfl⟩ rfl rfl hl.1 (Nat.le_of_ble_eq_true rfl) dX6_digestGlass_207 (fun _ o_14 H1 L1 P hf => ?_)
            refine r_aload_n C hl 0 rfl rfl dX6_digestGlass_210 ?_
            refine r_aload_n C hl 0 rfl rfl dX6_digestGlass_211 ?_
            refine r_iload_n C hl 1 rfl rfl dX6_digestGlass_212 ?_
            refine r_qVi C P cf_X6_203 (rm := rmX6_yearsUntilVoid) 19 0 (fun _ _ => ⟨_, rfl⟩) rfl rfl rfl [.int v1] [.ref (rA G 19 0)] hf (fun _ h => ctX6_yearsUntilVoid l G o_14 v1 h) ⟨rfl, rfl⟩ ⟨Nat.le_of_ble_eq_true rfl, Nat.le_of_ble_eq_true rfl⟩ ⟨Nat.le_of_ble_eq_true rfl, Nat.le_of_ble_eq_true rfl⟩ rfl rfl hl.1 (Nat.le_of_ble_eq_true rfl) dX6_digestGlass_213 (fun r_15 H1 L1 P hf => ?_)
            refine r_i2l C dX6_digestGlass_216 ?_
            refine r_cVv C P cf_X6_224 (rm := rmX6_digestOne) 19 0 (fun _ _ => ⟨_, rfl⟩) rfl rfl rfl [.long r_15.toInt64] [] hf (fun _ _ h => ctX6_digestOne l G o_14 r_15.toInt64 h) ⟨rfl, rfl⟩ ⟨Nat.le_of_ble_eq_true rfl, Nat.le_of_ble_eq_true rfl⟩ ⟨Nat.le_of_ble_eq_true rfl, Nat.le_of_ble_eq_true rfl⟩ rfl rfl hl.1 (Nat.le_of_ble_eq_true rfl) dX6_digestGlass_217 (fun _ o_17 H1 L1 P hf => ?_)
            exact r_vret C P (rm := rmX6_digestGlass) ⟨rfl, rfl⟩ dX6_digestGlass_220 hf
          exact lX6_digestGlass_167 C  j199 FU o_10 ((0 : Int32)) _ _ _ P (lv_sub hl [1, 2, 0] rfl) hf
        exact lX6_digestGlass_143 C  j165 FU o_9 ((0 : Int32)) _ _ _ P (lv_sub hl [1, 2, 0] rfl) hf
      exact lX6_digestGlass_96 C  j141 FU o_8 ((0 : Int32)) _ _ _ P (lv_sub hl [1, 2, 0] rfl) hf
    exact lX6_digestGlass_27 C  j62 FU o_1 ((0 : Int32)) _ _ _ P (lv_sub hl [1, 2, 0] rfl) hf
  exact lX6_digestGlass_2 C  j25 FU o ((0 : Int32)) _ _ _ P (lv_sub hl [1, 2, 0] rfl) hf
theorem ctX6_digestGlass (l : Launch) (G : Gd) (o : OM) (v1 : Int32)  {r : Unit} {o9 : OM} (hf : F_X6_digestGlass o v1 = some (r, o9)) : Ct l yX6_digestGlass cX6_digestGlass 3 none rmX6_digestGlass G [.ref (rA G 19 0), .int v1] o none o9 := ct_of (by decide +kernel) (Nat.le_of_ble_eq_true rfl) (fun p e s m below meth c ls C P hl => wX6_digestGlass C  P hl hf)
theorem cf_X6_230 : CallF false RX6 230 yX6_digestGlass cX6_digestGlass 3 none 1 := ⟨wd_1232, (by rw [if_neg (by decide)]; exact ⟨wd_1234, wd_63⟩), wd_71, wd_1235, by decide, by decide +kernel⟩
theorem cf_X6_234 : CallF true RX6 234 yX6_bitsOf cX6_bitsOf 6 (some .long) 1 := ⟨wd_1236, (by rw [if_pos rfl]; exact wd_1237), wd_71, wd_1238, by decide, by decide +kernel⟩
theorem dX6_digest_0 : Dc cX6_digest 0 (.aload_n 0) 1 1 := ⟨by decide +kernel, rfl⟩
theorem dX6_digest_1 : Dc cX6_digest 1 (.iconst 0) 1 2 := ⟨by decide +kernel, rfl⟩
theorem dX6_digest_2 : Dc cX6_digest 2 (.putfield 22) 3 5 := ⟨by decide +kernel, rfl⟩
theorem dX6_digest_5 : Dc cX6_digest 5 (.aload_n 0) 1 6 := ⟨by decide +kernel, rfl⟩
theorem dX6_digest_6 : Dc cX6_digest 6 (.ldc2_w 228) 3 9 := ⟨by decide +kernel, rfl⟩
theorem dX6_digest_9 : Dc cX6_digest 9 (.putfield 220) 3 12 := ⟨by decide +kernel, rfl⟩
theorem dX6_digest_12 : Dc cX6_digest 12 (.iconst 0) 1 13 := ⟨by decide +kernel, rfl⟩
theorem dX6_digest_13 : Dc cX6_digest 13 (.istore_n 1) 1 14 := ⟨by decide +kernel, rfl⟩
theorem dX6_digest_14 : Dc cX6_digest 14 (.iload_n 1) 1 15 := ⟨by decide +kernel, rfl⟩
theorem dX6_digest_15 : Dc cX6_digest 15 (.bipush 18) 2 17 := ⟨by decide +kernel, rfl⟩
theorem dX6_digest_17 : Dj cX6_digest 17 (.if_icmp .ge 19) 3 20 (19) 36 := ⟨by decide +kernel, rfl, by decide⟩
theorem dX6_digest_20 : Dc cX6_digest 20 (.aload_n 0) 1 21 := ⟨by decide +kernel, rfl⟩
theorem dX6_digest_21 : Dc cX6_digest 21 (.aload_n 0) 1 22 := ⟨by decide +kernel, rfl⟩
theorem dX6_digest_22 : Dc cX6_digest 22 (.iload_n 1) 1 23 := ⟨by decide +kernel, rfl⟩
theorem dX6_digest_23 : Dc cX6_digest 23 (.invokevirtual 197) 3 26 := ⟨by decide +kernel, rfl⟩
theorem dX6_digest_26 : Dc cX6_digest 26 (.i2l) 1 27 := ⟨by decide +kernel, rfl⟩
theorem dX6_digest_27 : Dc cX6_digest 27 (.invokevirtual 224) 3 30 := ⟨by decide +kernel, rfl⟩
theorem dX6_digest_30 : Dc cX6_digest 30 (.iinc 1 1) 3 33 := ⟨by decide +kernel, rfl⟩
theorem dX6_digest_33 : Dj cX6_digest 33 (.goto (-19)) 3 36 (-19) 14 := ⟨by decide +kernel, rfl, by decide⟩
theorem dX6_digest_36 : Dc cX6_digest 36 (.iconst 0) 1 37 := ⟨by decide +kernel, rfl⟩
theorem dX6_digest_37 : Dc cX6_digest 37 (.istore_n 1) 1 38 := ⟨by decide +kernel, rfl⟩
theorem dX6_digest_38 : Dc cX6_digest 38 (.iload_n 1) 1 39 := ⟨by decide +kernel, rfl⟩
theorem dX6_digest_39 : Dc cX6_digest 39 (.aload_n 0) 1 40 := ⟨by decide +kernel, rfl⟩
theorem dX6_digest_40 : Dc cX6_digest 40 (.getfield 7) 3 43 := ⟨by decide +kernel, rfl⟩
theorem dX6_digest_43 : Dc cX6_digest 43 (.sipush 228) 3 46 := ⟨by decide +kernel, rfl⟩
theorem dX6_digest_46 : Dc cX6_digest 46 (.iaload) 1 47 := ⟨by decide +kernel, rfl⟩
theorem dX6_digest_47 : Dj cX6_digest 47 (.if_icmp .ge 14) 3 50 (14) 61 := ⟨by decide +kernel, rfl, by decide⟩
theorem dX6_digest_50 : Dc cX6_digest 50 (.aload_n 0) 1 51 := ⟨by decide +kernel, rfl⟩
theorem dX6_digest_51 : Dc cX6_digest 51 (.iload_n 1) 1 52 := ⟨by decide +kernel, rfl⟩
theorem dX6_digest_52 : Dc cX6_digest 52 (.invokevirtual 230) 3 55 := ⟨by decide +kernel, rfl⟩
theorem dX6_digest_55 : Dc cX6_digest 55 (.iinc 1 1) 3 58 := ⟨by decide +kernel, rfl⟩
theorem dX6_digest_58 : Dj cX6_digest 58 (.goto (-20)) 3 61 (-20) 38 := ⟨by decide +kernel, rfl, by decide⟩
theorem dX6_digest_61 : Dc cX6_digest 61 (.aload_n 0) 1 62 := ⟨by decide +kernel, rfl⟩
theorem dX6_digest_62 : Dc cX6_digest 62 (.aload_n 0) 1 63 := ⟨by decide +kernel, rfl⟩
theorem dX6_digest_63 : Dc cX6_digest 63 (.getfield 7) 3 66 := ⟨by decide +kernel, rfl⟩
theorem dX6_digest_66 : Dc cX6_digest 66 (.sipush 242) 3 69 := ⟨by decide +kernel, rfl⟩
theorem dX6_digest_69 : Dc cX6_digest 69 (.iaload) 1 70 := ⟨by decide +kernel, rfl⟩
theorem dX6_digest_70 : Dc cX6_digest 70 (.i2l) 1 71 := ⟨by decide +kernel, rfl⟩
theorem dX6_digest_71 : Dc cX6_digest 71 (.invokevirtual 224) 3 74 := ⟨by decide +kernel, rfl⟩
theorem dX6_digest_74 : Dc cX6_digest 74 (.aload_n 0) 1 75 := ⟨by decide +kernel, rfl⟩
theorem dX6_digest_75 : Dc cX6_digest 75 (.aload_n 0) 1 76 := ⟨by decide +kernel, rfl⟩
theorem dX6_digest_76 : Dc cX6_digest 76 (.getfield 7) 3 79 := ⟨by decide +kernel, rfl⟩
theorem dX6_digest_79 : Dc cX6_digest 79 (.sipush 243) 3 82 := ⟨by decide +kernel, rfl⟩
theorem dX6_digest_82 : Dc cX6_digest 82 (.iaload) 1 83 := ⟨by decide +kernel, rfl⟩
theorem dX6_digest_83 : Dc cX6_digest 83 (.i2l) 1 84 := ⟨by decide +kernel, rfl⟩
theorem dX6_digest_84 : Dc cX6_digest 84 (.invokevirtual 224) 3 87 := ⟨by decide +kernel, rfl⟩
theorem dX6_digest_87 : Dc cX6_digest 87 (.aload_n 0) 1 88 := ⟨by decide +kernel, rfl⟩
theorem dX6_digest_88 : Dc cX6_digest 88 (.aload_n 0) 1 89 := ⟨by decide +kernel, rfl⟩
theorem dX6_digest_89 : Dc cX6_digest 89 (.invokevirtual 206) 3 92 := ⟨by decide +kernel, rfl⟩
theorem dX6_digest_92 : Dc cX6_digest 92 (.invokestatic 234) 3 95 := ⟨by decide +kernel, rfl⟩
theorem dX6_digest_95 : Dc cX6_digest 95 (.invokevirtual 224) 3 98 := ⟨by decide +kernel, rfl⟩
theorem dX6_digest_98 : Dc cX6_digest 98 (.aload_n 0) 1 99 := ⟨by decide +kernel, rfl⟩
theorem dX6_digest_99 : Dc cX6_digest 99 (.aload_n 0) 1 100 := ⟨by decide +kernel, rfl⟩
theorem dX6_digest_100 : Dc cX6_digest 100 (.getfield 127) 3 103 := ⟨by decide +kernel, rfl⟩
theorem dX6_digest_103 : Dc cX6_digest 103 (.i2l) 1 104 := ⟨by decide +kernel, rfl⟩
theorem dX6_digest_104 : Dc cX6_digest 104 (.invokevirtual 224) 3 107 := ⟨by decide +kernel, rfl⟩
theorem dX6_digest_107 : Dc cX6_digest 107 (.iconst 0) 1 108 := ⟨by decide +kernel, rfl⟩
theorem dX6_digest_108 : Dc cX6_digest 108 (.istore_n 1) 1 109 := ⟨by decide +kernel, rfl⟩
theorem dX6_digest_109 : Dc cX6_digest 109 (.iload_n 1) 1 110 := ⟨by decide +kernel, rfl⟩
theorem dX6_digest_110 : Dc cX6_digest 110 (.aload_n 0) 1 111 := ⟨by decide +kernel, rfl⟩
theorem dX6_digest_111 : Dc cX6_digest 111 (.getfield 127) 3 114 := ⟨by decide +kernel, rfl⟩
theorem dX6_digest_114 : Dj cX6_digest 114 (.if_icmp .ge 20) 3 117 (20) 134 := ⟨by decide +kernel, rfl, by decide⟩
theorem dX6_digest_117 : Dc cX6_digest 117 (.aload_n 0) 1 118 := ⟨by decide +kernel, rfl⟩
theorem dX6_digest_118 : Dc cX6_digest 118 (.aload_n 0) 1 119 := ⟨by decide +kernel, rfl⟩
theorem dX6_digest_119 : Dc cX6_digest 119 (.getfield 19) 3 122 := ⟨by decide +kernel, rfl⟩
theorem dX6_digest_122 : Dc cX6_digest 122 (.iload_n 1) 1 123 := ⟨by decide +kernel, rfl⟩
theorem dX6_digest_123 : Dc cX6_digest 123 (.iaload) 1 124 := ⟨by decide +kernel, rfl⟩
theorem dX6_digest_124 : Dc cX6_digest 124 (.i2l) 1 125 := ⟨by decide +kernel, rfl⟩
theorem dX6_digest_125 : Dc cX6_digest 125 (.invokevirtual 224) 3 128 := ⟨by decide +kernel, rfl⟩
theorem dX6_digest_128 : Dc cX6_digest 128 (.iinc 1 1) 3 131 := ⟨by decide +kernel, rfl⟩
theorem dX6_digest_131 : Dj cX6_digest 131 (.goto (-22)) 3 134 (-22) 109 := ⟨by decide +kernel, rfl, by decide⟩
theorem dX6_digest_134 : Dc cX6_digest 134 (.aload_n 0) 1 135 := ⟨by decide +kernel, rfl⟩
theorem dX6_digest_135 : Dc cX6_digest 135 (.getfield 220) 3 138 := ⟨by decide +kernel, rfl⟩
theorem dX6_digest_138 : Dc cX6_digest 138 (.lreturn) 1 139 := ⟨by decide +kernel, rfl⟩
def LX6_digest_109 (k134 : OM → Option (Int64 × OM)) : Nat → OM → Int32 → Option (Int64 × OM)
  | 0 => fun _ _ => none
  | n + 1 => fun o_17 v1_16 => if (rd o_17 19 0 7) ≤ v1_16 then (k134 o_17) else (grd (inB v1_16 60) (bn (F_X6_digestOne o_17 ((rd o_17 23 0 v1_16.toNatClampNeg).toInt64)) (fun _ o_19 => bd (v1_16 + (1 : Int32)) (fun v1_20 : Int32 => (LX6_digest_109 k134 n) o_19 v1_20))))
def LX6_digest_38 (k61 : OM → Option (Int64 × OM)) : Nat → OM → Int32 → Option (Int64 × OM)
  | 0 => fun _ _ => none
  | n + 1 => fun o_22 v1_21 => grd (inB ((228 : Int32)) 244) (if (rd o_22 20 0 ((228 : Int32)).toNatClampNeg) ≤ v1_21 then (k61 o_22) else (bn (F_X6_digestGlass o_22 v1_21) (fun _ o_24 => bd (v1_21 + (1 : Int32)) (fun v1_25 : Int32 => (LX6_digest_38 k61 n) o_24 v1_25))))
def LX6_digest_14 (k36 : OM → Option (Int64 × OM)) : Nat → OM → Int32 → Option (Int64 × OM)
  | 0 => fun _ _ => none
  | n + 1 => fun o_27 v1_26 => if ((18 : Int32)) ≤ v1_26 then (k36 o_27) else (bq (F_X6_counted o_27 v1_26) (fun r_28 => bn (F_X6_digestOne o_27 r_28.toInt64) (fun _ o_30 => bd (v1_26 + (1 : Int32)) (fun v1_31 : Int32 => (LX6_digest_14 k36 n) o_30 v1_31))))
def F_X6_digest (o : OM) : Option (Int64 × OM) := bd (wr o 19 0 0 ((0 : Int32))) (fun o_1 : OM => bd (wrL o_1 19 ((3907 : Int64))) (fun o_2 : OM => bd (fun (o_3 : OM) => bd (fun (o_4 : OM) => grd (inB ((242 : Int32)) 244) (bn (F_X6_digestOne o_4 ((rd o_4 20 0 ((242 : Int32)).toNatClampNeg).toInt64)) (fun _ o_6 => grd (inB ((243 : Int32)) 244) (bn (F_X6_digestOne o_6 ((rd o_6 20 0 ((243 : Int32)).toNatClampNeg).toInt64)) (fun _ o_8 => bq (F_X6_share o_8) (fun r_9 => bq (F_X6_bitsOf o_8 r_9) (fun r_10 => bn (F_X6_digestOne o_8 r_10) (fun _ o_12 => bn (F_X6_digestOne o_12 ((rd o_12 19 0 7).toInt64)) (fun _ o_14 => bd (fun (o_15 : OM) => some ((rdL o_15 19), o_15)) (fun k134 => LX6_digest_109 k134 FU o_14 ((0 : Int32)))))))))))) (fun k61 => LX6_digest_38 k61 FU o_3 ((0 : Int32)))) (fun k36 => LX6_digest_14 k36 FU o_2 ((0 : Int32)))))
abbrev rmX6_digest : Room := { frames := 9, cells := 0, slots := 0, locals := 212 }
set_option maxHeartbeats 4000000 in
set_option maxRecDepth 100000 in
theorem lX6_digest_109 {G : Gd} {p : Program} {l : Launch} {e : Env} {s : State} {m : MethodId} {args : Array Value} {below : List Frame} {meth : Method} {c : Code} {r : Int64} {o9 : OM}  (C : Cx G RX6 cX6_digest 2 (some .long) p s m args meth c)  {k134 : OM → Option (Int64 × OM)} (j134 : ∀ (o_15 : OM) H1 L1 ls, Hp G o_15 s H1 L1 → lv_has ls 2 [(0, .ref (rA G 19 0))] → k134 o_15 = some (r, o9) → W p l e rmX6_digest s m args below meth c H1 L1 0 0 (Qm G (some (.long r)) o9 rmX6_digest below args s) (F0 m 134 ls [])) : ∀ (n : Nat) (o_17 : OM) (v1_16 : Int32) H1 L1 ls, Hp G o_17 s H1 L1 → lv_has ls 2 [(0, .ref (rA G 19 0)), (1, .int v1_16)] → LX6_digest_109 k134 n o_17 v1_16 = some (r, o9) → W p l e rmX6_digest s m args below meth c H1 L1 0 0 (Qm G (some (.long r)) o9 rmX6_digest below args s) (F0 m 109 ls []) := by
  intro n
  induction n with
  | zero =>
    intro o_17 v1_16 H1 L1 ls P hl hf
    exact nomatch hf
  | succ n ih =>
    intro o_17 v1_16 H1 L1 ls P hl hf
    rw [LX6_digest_109.eq_2] at hf
    refine r_iload_n C hl 1 rfl rfl dX6_digest_109 ?_
    refine r_aload_n C hl 0 rfl rfl dX6_digest_110 ?_
    refine gf_19_7 C P rfl wd_886 dX6_digest_111 ?_
    refine r_icmp_ge C dX6_digest_114 hf (fun hf => ?_) (fun hf => ?_)
    · exact j134 o_17 _ _ _ P (lv_sub hl [0] rfl) hf
    · refine r_aload_n C hl 0 rfl rfl dX6_digest_117 ?_
      refine r_aload_n C hl 0 rfl rfl dX6_digest_118 ?_
      refine gf_19_6 C P rfl wd_885 dX6_digest_119 ?_
      refine r_iload_n C hl 1 rfl rfl dX6_digest_122 ?_
      refine r_iald C P (k := 23) (i := 0) (n := 60) (fun _ _ => rfl) rfl dX6_digest_123 hf (fun hf => ?_)
      refine r_i2l C dX6_digest_124 ?_
      refine r_cVv C P cf_X6_224 (rm := rmX6_digestOne) 19 0 (fun _ _ => ⟨_, rfl⟩) rfl rfl rfl [.long ((rd o_17 23 0 v1_16.toNatClampNeg).toInt64)] [] hf (fun _ _ h => ctX6_digestOne l G o_17 ((rd o_17 23 0 v1_16.toNatClampNeg).toInt64) h) ⟨rfl, rfl⟩ ⟨Nat.le_of_ble_eq_true rfl, Nat.le_of_ble_eq_true rfl⟩ ⟨Nat.le_of_ble_eq_true rfl, Nat.le_of_ble_eq_true rfl⟩ rfl rfl hl.1 (Nat.le_of_ble_eq_true rfl) dX6_digest_125 (fun _ o_19 H1 L1 P hf => ?_)
      refine r_iinc C (fun v1_20 => [(1, .int v1_20), (0, .ref (rA G 19 0))]) (w := 1) 1 hl rfl (by decide) (by decide) (fun _ => rfl) dX6_digest_128 hf (fun v1_20 ls hl hf => ?_)
      refine r_goto C dX6_digest_131 ?_
      exact ih o_19 v1_20 _ _ _ P (lv_sub hl [1, 0] rfl) hf
set_option maxHeartbeats 4000000 in
set_option maxRecDepth 100000 in
theorem lX6_digest_38 {G : Gd} {p : Program} {l : Launch} {e : Env} {s : State} {m : MethodId} {args : Array Value} {below : List Frame} {meth : Method} {c : Code} {r : Int64} {o9 : OM}  (C : Cx G RX6 cX6_digest 2 (some .long) p s m args meth c)  {k61 : OM → Option (Int64 × OM)} (j61 : ∀ (o_4 : OM) H1 L1 ls, Hp G o_4 s H1 L1 → lv_has ls 2 [(0, .ref (rA G 19 0))] → k61 o_4 = some (r, o9) → W p l e rmX6_digest s m args below meth c H1 L1 0 0 (Qm G (some (.long r)) o9 rmX6_digest below args s) (F0 m 61 ls [])) : ∀ (n : Nat) (o_22 : OM) (v1_21 : Int32) H1 L1 ls, Hp G o_22 s H1 L1 → lv_has ls 2 [(0, .ref (rA G 19 0)), (1, .int v1_21)] → LX6_digest_38 k61 n o_22 v1_21 = some (r, o9) → W p l e rmX6_digest s m args below meth c H1 L1 0 0 (Qm G (some (.long r)) o9 rmX6_digest below args s) (F0 m 38 ls []) := by
  intro n
  induction n with
  | zero =>
    intro o_22 v1_21 H1 L1 ls P hl hf
    exact nomatch hf
  | succ n ih =>
    intro o_22 v1_21 H1 L1 ls P hl hf
    rw [LX6_digest_38.eq_2] at hf
    refine r_iload_n C hl 1 rfl rfl dX6_digest_38 ?_
    refine r_aload_n C hl 0 rfl rfl dX6_digest_39 ?_
    refine gf_19_1 C P rfl wd_880 dX6_digest_40 ?_
    refine r_sipush C (v := 228) (by decide) dX6_digest_43 ?_
    refine r_iald C P (k := 20) (i := 0) (n := 244) (fun _ _ => rfl) rfl dX6_digest_46 hf (fun hf => ?_)
    refine r_icmp_ge C dX6_digest_47 hf (fun hf => ?_) (fun hf => ?_)
    · exact j61 o_22 _ _ _ P (lv_sub hl [0] rfl) hf
    · refine r_aload_n C hl 0 rfl rfl dX6_digest_50 ?_
      refine r_iload_n C hl 1 rfl rfl dX6_digest_51 ?_
      refine r_cVv C P cf_X6_230 (rm := rmX6_digestGlass) 19 0 (fun _ _ => ⟨_, rfl⟩) rfl rfl rfl [.int v1_21] [] hf (fun _ _ h => ctX6_digestGlass l G o_22 v1_21 h) ⟨rfl, rfl⟩ ⟨Nat.le_of_ble_eq_true rfl, Nat.le_of_ble_eq_true rfl⟩ ⟨Nat.le_of_ble_eq_true rfl, Nat.le_of_ble_eq_true rfl⟩ rfl rfl hl.1 (Nat.le_of_ble_eq_true rfl) dX6_digest_52 (fun _ o_24 H1 L1 P hf => ?_)
      refine r_iinc C (fun v1_25 => [(1, .int v1_25), (0, .ref (rA G 19 0))]) (w := 1) 1 hl rfl (by decide) (by decide) (fun _ => rfl) dX6_digest_55 hf (fun v1_25 ls hl hf => ?_)
      refine r_goto C dX6_digest_58 ?_
      exact ih o_24 v1_25 _ _ _ P (lv_sub hl [1, 0] rfl) hf
set_option maxHeartbeats 4000000 in
set_option maxRecDepth 100000 in
theorem lX6_digest_14 {G : Gd} {p : Program} {l : Launch} {e : Env} {s : State} {m : MethodId} {args : Array Value} {below : List Frame} {meth : Method} {c : Code} {r : Int64} {o9 : OM}  (C : Cx G RX6 cX6_digest 2 (some .long) p s m args meth c)  {k36 : OM → Option (Int64 × OM)} (j36 : ∀ (o_3 : OM) H1 L1 ls, Hp G o_3 s H1 L1 → lv_has ls 2 [(0, .ref (rA G 19 0))] → k36 o_3 = some (r, o9) → W p l e rmX6_digest s m args below meth c H1 L1 0 0 (Qm G (some (.long r)) o9 rmX6_digest below args s) (F0 m 36 ls [])) : ∀ (n : Nat) (o_27 : OM) (v1_26 : Int32) H1 L1 ls, Hp G o_27 s H1 L1 → lv_has ls 2 [(0, .ref (rA G 19 0)), (1, .int v1_26)] → LX6_digest_14 k36 n o_27 v1_26 = some (r, o9) → W p l e rmX6_digest s m args below meth c H1 L1 0 0 (Qm G (some (.long r)) o9 rmX6_digest below args s) (F0 m 14 ls []) := by
  intro n
  induction n with
  | zero =>
    intro o_27 v1_26 H1 L1 ls P hl hf
    exact nomatch hf
  | succ n ih =>
    intro o_27 v1_26 H1 L1 ls P hl hf
    rw [LX6_digest_14.eq_2] at hf
    refine r_iload_n C hl 1 rfl rfl dX6_digest_14 ?_
    refine r_bipush C (v := 18) (by decide) dX6_digest_15 ?_
    refine r_icmp_ge C dX6_digest_17 hf (fun hf => ?_) (fun hf => ?_)
    · exact j36 o_27 _ _ _ P (lv_sub hl [0] rfl) hf
    · refine r_aload_n C hl 0 rfl rfl dX6_digest_20 ?_
      refine r_aload_n C hl 0 rfl rfl dX6_digest_21 ?_
      refine r_iload_n C hl 1 rfl rfl dX6_digest_22 ?_
      refine r_qVi C P cf_X6_197 (rm := rmX6_counted) 19 0 (fun _ _ => ⟨_, rfl⟩) rfl rfl rfl [.int v1_26] [.ref (rA G 19 0)] hf (fun _ h => ctX6_counted l G o_27 v1_26 h) ⟨rfl, rfl⟩ ⟨Nat.le_of_ble_eq_true rfl, Nat.le_of_ble_eq_true rfl⟩ ⟨Nat.le_of_ble_eq_true rfl, Nat.le_of_ble_eq_true rfl⟩ rfl rfl hl.1 (Nat.le_of_ble_eq_true rfl) dX6_digest_23 (fun r_28 H1 L1 P hf => ?_)
      refine r_i2l C dX6_digest_26 ?_
      refine r_cVv C P cf_X6_224 (rm := rmX6_digestOne) 19 0 (fun _ _ => ⟨_, rfl⟩) rfl rfl rfl [.long r_28.toInt64] [] hf (fun _ _ h => ctX6_digestOne l G o_27 r_28.toInt64 h) ⟨rfl, rfl⟩ ⟨Nat.le_of_ble_eq_true rfl, Nat.le_of_ble_eq_true rfl⟩ ⟨Nat.le_of_ble_eq_true rfl, Nat.le_of_ble_eq_true rfl⟩ rfl rfl hl.1 (Nat.le_of_ble_eq_true rfl) dX6_digest_27 (fun _ o_30 H1 L1 P hf => ?_)
      refine r_iinc C (fun v1_31 => [(1, .int v1_31), (0, .ref (rA G 19 0))]) (w := 1) 1 hl rfl (by decide) (by decide) (fun _ => rfl) dX6_digest_30 hf (fun v1_31 ls hl hf => ?_)
      refine r_goto C dX6_digest_33 ?_
      exact ih o_30 v1_31 _ _ _ P (lv_sub hl [1, 0] rfl) hf
set_option maxHeartbeats 4000000 in
set_option maxRecDepth 100000 in
theorem wX6_digest {G : Gd} {p : Program} {l : Launch} {e : Env} {s : State} {m : MethodId} {args : Array Value} {below : List Frame} {meth : Method} {c : Code} {o : OM} {H : Heap} {L0 : List Loc} {ls : Array Slot} {r : Int64} {o9 : OM}  (C : Cx G RX6 cX6_digest 2 (some .long) p s m args meth c)  (P : Hp G o s H L0) (hl : lv_has ls 2 [(0, .ref (rA G 19 0))]) (hf : F_X6_digest o  = some (r, o9)) : W p l e rmX6_digest s m args below meth c H L0 0 0 (Qm G (some (.long r)) o9 rmX6_digest below args s) (F0 m 0 ls []) := by
  unfold F_X6_digest at hf
  refine r_aload_n C hl 0 rfl rfl dX6_digest_0 ?_
  refine r_iconst C (v := 0) (by decide) dX6_digest_1 ?_
  refine pf_19_0 C P rfl wd_879 dX6_digest_2 hf (fun o_1 H1 L1 P hf => ?_)
  refine r_aload_n C hl 0 rfl rfl dX6_digest_5 ?_
  refine r_ldc2 C wd_1226 dX6_digest_6 ?_
  refine pf_19_14 C P rfl wd_893 dX6_digest_9 hf (fun o_2 H1 L1 P hf => ?_)
  refine r_iconst C (v := 0) (by decide) dX6_digest_12 ?_
  refine r_istore_n C [(1, .int ((0 : Int32))), (0, .ref (rA G 19 0))] hl (by decide) rfl rfl dX6_digest_13 (fun ls hl => ?_)
  refine r_jn (fun k36 : OM → Option (Int64 × OM) => ∀ (o_3 : OM) H1 L1 ls, Hp G o_3 s H1 L1 → lv_has ls 2 [(0, .ref (rA G 19 0))] → k36 o_3 = some (r, o9) → W p l e rmX6_digest s m args below meth c H1 L1 0 0 (Qm G (some (.long r)) o9 rmX6_digest below args s) (F0 m 36 ls [])) hf ?_ (fun k36 j36 hf => ?_)
  · intro o_3 H1 L1 ls  P hl hf
    refine r_iconst C (v := 0) (by decide) dX6_digest_36 ?_
    refine r_istore_n C [(1, .int ((0 : Int32))), (0, .ref (rA G 19 0))] hl (by decide) rfl rfl dX6_digest_37 (fun ls hl => ?_)
    refine r_jn (fun k61 : OM → Option (Int64 × OM) => ∀ (o_4 : OM) H1 L1 ls, Hp G o_4 s H1 L1 → lv_has ls 2 [(0, .ref (rA G 19 0))] → k61 o_4 = some (r, o9) → W p l e rmX6_digest s m args below meth c H1 L1 0 0 (Qm G (some (.long r)) o9 rmX6_digest below args s) (F0 m 61 ls [])) hf ?_ (fun k61 j61 hf => ?_)
    · intro o_4 H1 L1 ls  P hl hf
      refine r_aload_n C hl 0 rfl rfl dX6_digest_61 ?_
      refine r_aload_n C hl 0 rfl rfl dX6_digest_62 ?_
      refine gf_19_1 C P rfl wd_880 dX6_digest_63 ?_
      refine r_sipush C (v := 242) (by decide) dX6_digest_66 ?_
      refine r_iald C P (k := 20) (i := 0) (n := 244) (fun _ _ => rfl) rfl dX6_digest_69 hf (fun hf => ?_)
      refine r_i2l C dX6_digest_70 ?_
      refine r_cVv C P cf_X6_224 (rm := rmX6_digestOne) 19 0 (fun _ _ => ⟨_, rfl⟩) rfl rfl rfl [.long ((rd o_4 20 0 ((242 : Int32)).toNatClampNeg).toInt64)] [] hf (fun _ _ h => ctX6_digestOne l G o_4 ((rd o_4 20 0 ((242 : Int32)).toNatClampNeg).toInt64) h) ⟨rfl, rfl⟩ ⟨Nat.le_of_ble_eq_true rfl, Nat.le_of_ble_eq_true rfl⟩ ⟨Nat.le_of_ble_eq_true rfl, Nat.le_of_ble_eq_true rfl⟩ rfl rfl hl.1 (Nat.le_of_ble_eq_true rfl) dX6_digest_71 (fun _ o_6 H1 L1 P hf => ?_)
      refine r_aload_n C hl 0 rfl rfl dX6_digest_74 ?_
      refine r_aload_n C hl 0 rfl rfl dX6_digest_75 ?_
      refine gf_19_1 C P rfl wd_880 dX6_digest_76 ?_
      refine r_sipush C (v := 243) (by decide) dX6_digest_79 ?_
      refine r_iald C P (k := 20) (i := 0) (n := 244) (fun _ _ => rfl) rfl dX6_digest_82 hf (fun hf => ?_)
      refine r_i2l C dX6_digest_83 ?_
      refine r_cVv C P cf_X6_224 (rm := rmX6_digestOne) 19 0 (fun _ _ => ⟨_, rfl⟩) rfl rfl rfl [.long ((rd o_6 20 0 ((243 : Int32)).toNatClampNeg).toInt64)] [] hf (fun _ _ h => ctX6_digestOne l G o_6 ((rd o_6 20 0 ((243 : Int32)).toNatClampNeg).toInt64) h) ⟨rfl, rfl⟩ ⟨Nat.le_of_ble_eq_true rfl, Nat.le_of_ble_eq_true rfl⟩ ⟨Nat.le_of_ble_eq_true rfl, Nat.le_of_ble_eq_true rfl⟩ rfl rfl hl.1 (Nat.le_of_ble_eq_true rfl) dX6_digest_84 (fun _ o_8 H1 L1 P hf => ?_)
      refine r_aload_n C hl 0 rfl rfl dX6_digest_87 ?_
      refine r_aload_n C hl 0 rfl rfl dX6_digest_88 ?_
      refine r_qVd C P cf_X6_206 (rm := rmX6_share) 19 0 (fun _ _ => ⟨_, rfl⟩) rfl rfl rfl [] [.ref (rA G 19 0)] hf (fun _ h => ctX6_share l G o_8 h) ⟨rfl, rfl⟩ ⟨Nat.le_of_ble_eq_true rfl, Nat.le_of_ble_eq_true rfl⟩ ⟨Nat.le_of_ble_eq_true rfl, Nat.le_of_ble_eq_true rfl⟩ rfl rfl hl.1 (Nat.le_of_ble_eq_true rfl) dX6_digest_89 (fun r_9 H1 L1 P hf => ?_)
      refine r_qSl C P cf_X6_234 (rm := rmX6_bitsOf) [.double r_9] [.ref (rA G 19 0)] hf (fun _ h => ctX6_bitsOf l G o_8 r_9 h) ⟨rfl, rfl⟩ ⟨Nat.le_of_ble_eq_true rfl, Nat.le_of_ble_eq_true rfl⟩ ⟨Nat.le_of_ble_eq_true rfl, Nat.le_of_ble_eq_true rfl⟩ rfl rfl hl.1 (Nat.le_of_ble_eq_true rfl) dX6_digest_92 (fun r_10 H1 L1 P hf => ?_)
      refine r_cVv C P cf_X6_224 (rm := rmX6_digestOne) 19 0 (fun _ _ => ⟨_, rfl⟩) rfl rfl rfl [.long r_10] [] hf (fun _ _ h => ctX6_digestOne l G o_8 r_10 h) ⟨rfl, rfl⟩ ⟨Nat.le_of_ble_eq_true rfl, Nat.le_of_ble_eq_true rfl⟩ ⟨Nat.le_of_ble_eq_true rfl, Nat.le_of_ble_eq_true rfl⟩ rfl rfl hl.1 (Nat.le_of_ble_eq_true rfl) dX6_digest_95 (fun _ o_12 H1 L1 P hf => ?_)
      refine r_aload_n C hl 0 rfl rfl dX6_digest_98 ?_
      refine r_aload_n C hl 0 rfl rfl dX6_digest_99 ?_
      refine gf_19_7 C P rfl wd_886 dX6_digest_100 ?_
      refine r_i2l C dX6_digest_103 ?_
      refine r_cVv C P cf_X6_224 (rm := rmX6_digestOne) 19 0 (fun _ _ => ⟨_, rfl⟩) rfl rfl rfl [.long ((rd o_12 19 0 7).toInt64)] [] hf (fun _ _ h => ctX6_digestOne l G o_12 ((rd o_12 19 0 7).toInt64) h) ⟨rfl, rfl⟩ ⟨Nat.le_of_ble_eq_true rfl, Nat.le_of_ble_eq_true rfl⟩ ⟨Nat.le_of_ble_eq_true rfl, Nat.le_of_ble_eq_true rfl⟩ rfl rfl hl.1 (Nat.le_of_ble_eq_true rfl) dX6_digest_104 (fun _ o_14 H1 L1 P hf => ?_)
      refine r_iconst C (v := 0) (by decide) dX6_digest_107 ?_
      refine r_istore_n C [(1, .int ((0 : Int32))), (0, .ref (rA G 19 0))] hl (by decide) rfl rfl dX6_digest_108 (fun ls hl => ?_)
      refine r_jn (fun k134 : OM → Option (Int64 × OM) => ∀ (o_15 : OM) H1 L1 ls, Hp G o_15 s H1 L1 → lv_has ls 2 [(0, .ref (rA G 19 0))] → k134 o_15 = some (r, o9) → W p l e rmX6_digest s m args below meth c H1 L1 0 0 (Qm G (some (.long r)) o9 rmX6_digest below args s) (F0 m 134 ls [])) hf ?_ (fun k134 j134 hf => ?_)
      · intro o_15 H1 L1 ls  P hl hf
        refine r_aload_n C hl 0 rfl rfl dX6_digest_134 ?_
        refine gf_19_14 C P rfl wd_893 dX6_digest_135 ?_
        exact r_lret C P (rm := rmX6_digest) ⟨rfl, rfl⟩ dX6_digest_138 hf
      exact lX6_digest_109 C  j134 FU o_14 ((0 : Int32)) _ _ _ P (lv_sub hl [1, 0] rfl) hf
    exact lX6_digest_38 C  j61 FU o_3 ((0 : Int32)) _ _ _ P (lv_sub hl [1, 0] rfl) hf
  exact lX6_digest_14 C  j36 FU o_2 ((0 : Int32)) _ _ _ P (lv_sub hl [1, 0] rfl) hf
theorem ctX6_digest (l : Launch) (G : Gd) (o : OM)   {r : Int64} {o9 : OM} (hf : F_X6_digest o  = some (r, o9)) : Ct l yX6_digest cX6_digest 2 (some .long) rmX6_digest G [.ref (rA G 19 0)] o (some (.long r)) o9 := ct_of (by decide +kernel) (Nat.le_of_ble_eq_true rfl) (fun p e s m below meth c ls C P hl => wX6_digest C  P hl hf)
