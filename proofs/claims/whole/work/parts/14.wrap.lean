/-! the law's own methods: a call of the class, its exceptions caught and numbered -/
def NCW : List (String × String) := [("java/lang/IllegalArgumentException", "java/lang/IllegalStateException"), ("java/lang/IllegalArgumentException", "java/lang/IndexOutOfBoundsException"), ("java/lang/IllegalStateException", "java/lang/IllegalArgumentException"), ("java/lang/IllegalStateException", "java/lang/IndexOutOfBoundsException"), ("java/lang/IndexOutOfBoundsException", "java/lang/IllegalArgumentException"), ("java/lang/IndexOutOfBoundsException", "java/lang/IllegalStateException")]
def XW (G : Gd) (U : State) : Prop := XF G U ∧ ∀ q ∈ NCW, va_Nc q.1 q.2 U
theorem XW.to {G : Gd} {s U : State} {H : Heap} {locs : List Loc} (h : XW G s) (hS : va_S (fr G) s.heap H locs) (hU : U.heap = H) (hW : s.WarmedH U.vm) : XW G U := ⟨h.1.to hS hU hW, fun q hq => (h.2 q hq).moved hW.alike⟩
theorem XW.calling {G : Gd} {U : State} {g : JFrame} {mk : MethodId} {a : Array Value} (h : XW G U) : XW G (U.calling g mk a) := ⟨h.1.calling, fun q hq => (h.2 q hq).moved (U := U.calling g mk a) (Vm.Alike.refl U.vm)⟩
def PreW (G : Gd) (o : OM) (U : State) : Prop := PreG G o U ∧ XW G U
def QcW (G : Gd) (k : Int32) (o' : OM) : Array Value → State → Outcome → State → Prop := QcG G (some (.int k)) o'
abbrev XF0 : String → State → State → Prop := fun _ _ _ => False
abbrev Ctw (l : Launch) (y : MethodName) (cc : ByteArray) (maxL : Nat) (hh : List (Nat × Nat × Nat × Nat)) (rm : Room) (G : Gd) (As : List Value) (o : OM) (code : Nat) (k : Int32) (o' : OM) : Prop :=
  vx_Met l y (Cond.codeWith y cc maxL (some .int) hh :: WT) (rmx rm code) (va_Pc As (PreW G o)) (QcW G k o') XF0 (mcx code) (6 * mcx code) (fr G)
abbrev Qwm (G : Gd) (code : Nat) (k : Int32) (o' : OM) (below : List Frame) (args : Array Value) (s : State) : State → Prop := vx_MQ below (QcW G k o') XF0 args s (mcx code) (6 * mcx code) (fr G)
theorem ctw_of {l : Launch} {y : MethodName} {cc : ByteArray} {maxL : Nat} {hh : List (Nat × Nat × Nat × Nat)} {rm : Room} {G : Gd} {As : List Value} {o : OM} {code : Nat} {k : Int32} {o' : OM} (hy : plainName y.cls = true) (hl : (lg_sl As).length ≤ maxL)
    (body : ∀ p e s m below meth c ls, Cx G y.cls cc maxL (some .int) p s m As.toArray meth c → c.exceptionTable.toList = tableOf hh → XW G s → Hp G o s s.heap [] → lv_has ls maxL (lv_args 0 As) →
      W p l e (rmx rm code) s m As.toArray below meth c s.heap [] 0 0 (Qwm G code k o' below As.toArray s) (F0 m 0 ls [])) : Ctw l y cc maxL hh rm G As o code k o' := by
  refine vx_ofWH (cc := cc) (maxL := maxL) (ret := some .int) (hh := hh) hy rfl ?_
  intro p e s m args below meth c s₁ B hml hv
  obtain ⟨rfl, ⟨hP, hK, hz⟩, hX⟩ := hv
  have hts := atoms_spec (ws := Cond.codeWith y cc maxL (some .int) hh :: WT) B.pre
  have hC : Cx G y.cls cc maxL (some .int) p s m As.toArray meth c := ⟨B.exec, B.bytes, hml, B.returns, findClass_of_methodNamed B.named, fun w hw => hts w (List.mem_cons_of_mem _ hw), hK, B.notSynchronized, hz⟩
  have h := body p e s m below meth c _ hC (vx_table (x := y) B (hts _ List.mem_cons_self)) hX ⟨hP, va_S.rf⟩ (lv_entry As (n := maxL) hl)
  rw [lg_entry_eq]
  exact h
def okc (cs : List Nat) (code : Nat) : Bool := decide (code = 0) || cs.contains code
def wk (cs : List Nat) (code : Nat) : Int32 := if code = 0 then 0 else if code = cs.getD 0 0 then 1 else 2
def wo (q : Nat × Int32) (o : OM) : OM := if q.1 = 0 then wrL o 24 q.2.toInt64 else o
section WR
variable {G : Gd} {own : String} {cc : ByteArray} {nL : Nat} {ret : Option FieldType} {p : Program} {l : Launch} {e : Env} {R : Room} {s : State} {m : MethodId} {args : Array Value} {below : List Frame} {meth : Method} {c : Code} {H : Heap} {locs : List Loc} {cells slots : Nat} {Q : State → Prop} {o : OM}
variable {pc pc' : Nat} {ls : Array Slot} {rest : List Value}
theorem preW_S (C : Cx G own cc nL ret p s m args meth c) (X : XW G s) (P : Hp G o s H locs) {As : List Value} : PreS s H (va_Pc As (PreW G o)) As := ⟨fun a U g mk q => ⟨q.1, ⟨q.2.1.1, va_K.moved (u := U) (U := U.calling g mk a) (Vm.Alike.refl U.vm) q.2.1.2.1, q.2.1.2.2⟩, q.2.2.calling⟩, fun U hU hW => ⟨rfl, ⟨by rw [hU]; exact P.1, va_K.moved hW.alike C.2.2.2.2.2.2.1, by rw [hU]; exact Nat.le_trans C.2.2.2.2.2.2.2.2 P.2.1⟩, X.to P.2 hU hW⟩⟩
theorem w_last (C : Cx G own cc nL ret p s m args meth c) (P : Hp G o s H locs) {v : Int64} (d : Dc cc pc .lastore 1 pc')
    (kk : ∀ H1 L1, Hp G (wrL o 24 v) s H1 L1 → W p l e R s m args below meth c H1 L1 cells slots Q (F0 m pc' ls rest)) : W p l e R s m args below meth c H locs cells slots Q (F0 m pc ls (.long v :: .int 0 :: .ref (rA G 24 0) :: rest)) := by
  obtain ⟨d1, rfl⟩ := d
  have ha : (WS G o)[adr 24 0]? = some (rA G 24 0, .inl (aJ G, 1, .inr (.inl (fun j => if j = 0 then o.2 24 else 0)))) := WS_at rfl
  refine va_last C.1 C.2.1 C.2.2.2.2.2.2.1 P.1 (WS_D G o) P.2 (adr 24 0) 2 ha rfl (inB_in (by decide)) d1 (fun H1 L1 h1 _ h3 => kk H1 L1 (P.put ?_ h1 h3))
  refine WS_set (k := 24) (i := 0) rfl ?_ (fun a b hb hab => cel_wrL (by decide) hb rfl hab)
  rw [celL_self]
  refine congrArg (fun f => (Sum.inl (aJ G, 1, .inr (.inl f)) : va_E)) (funext fun j => ?_)
  show (if j = 0 then v else 0) = vp_updL _ 0 v j
  unfold vp_updL
  by_cases h : j = 0
  · rw [if_pos h, if_pos h]
  · rw [if_neg h, if_neg h]
    exact (if_neg h).symm
theorem w_lald (C : Cx G own cc nL ret p s m args meth c) (P : Hp G o s H locs) (d : Dc cc pc .laload 1 pc')
    (kk : W p l e R s m args below meth c H locs cells slots Q (F0 m pc' ls (.long (rdL o 24) :: rest))) : W p l e R s m args below meth c H locs cells slots Q (F0 m pc ls (.int 0 :: .ref (rA G 24 0) :: rest)) := by
  obtain ⟨d1, rfl⟩ := d
  have ha : (WS G o)[adr 24 0]? = some (rA G 24 0, .inl (aJ G, 1, .inr (.inl (fun j => if j = 0 then o.2 24 else 0)))) := WS_at rfl
  exact va_lald C.1 C.2.1 C.2.2.2.2.2.2.1 P.1 (adr 24 0) 2 ha rfl (inB_in (by decide)) d1 kk
theorem w_iret (C : Cx G own cc nL (some .int) p s m args meth c) (P : Hp G o s H locs) {x : Int32} {code : Nat} (hz : cells = mcx code ∧ slots = 6 * mcx code) (d : Dc cc pc .ireturn 1 pc') : W p l e R s m args below meth c H locs cells slots (Qwm G code x o below args s) (F0 m pc ls [.int x]) := by
  have hlocks : meth.locks = false := C.2.2.2.2.2.2.2.1
  obtain ⟨rfl, rfl⟩ := hz
  exact vx_ret (W.iret C.1 C.2.1 C.2.2.2.1 (fun t ht _ => ⟨rfl, by rw [ht]; exact P.1, P.2.F ht⟩) P.2.2.2 d.1)
theorem w_call (C : Cx G own cc nL ret p s m args meth c) (X : XW G s) (P : Hp G o s H locs) {idx : Nat} {y : MethodName} {bytes : ByteArray} {maxL n : Nat} {rt : Option FieldType} (F : CallF false own idx y bytes maxL rt n) {rm : Room} (hy : y.cls = RX5) (As rest : List Value) {st0 : List Value} {code : Nat} {v : Int32} {o1 : OM}
    (hM : Cte l y bytes maxL rt rm G (.ref (rA G 0 0) :: As) o code (some (.int v)) o1) (hR : rm.frames + 1 ≤ R.frames ∧ 8 + (maxL + 11) + rm.locals ≤ R.locals) (hcs : mcx code ≤ R.cells ∧ 6 * mcx code ≤ R.slots) (hn : As.length = n) (hst : st0 = As.reverse ++ .ref (rA G 0 0) :: rest) (hsz : ls.size = nL) (hw : (rest.map fun v => v.category).sum ≤ 8) (d : Dc cc pc (.invokevirtual idx) 3 pc')
    (kk : ∀ H1 L1, Hp G o1 s H1 L1 → code = 0 → W p l e R s m args below meth c H1 L1 0 0 Q (F0 m pc' ls (.int v :: rest)))
    (kx : ∀ H1 L1 ce qa, Hp G o1 s H1 L1 → code ≠ 0 → H1[qa]? = some ce → ce.vm = .none → s.vm.findClass (exN code) = some ce.cls → vx_W p l e R s m args below meth c H1 L1 (mcx code) (6 * mcx code) Q (F0 m pc ls rest) qa) : W p l e R s m args below meth c H locs 0 0 Q (F0 m pc ls st0) := by
  obtain ⟨d1, rfl⟩ := d
  have hb := callB_X (R := R) C F (rm := rmx rm code) hR
  have hb' := F.2.1
  rw [if_neg (by decide)] at hb'
  have hts := C.2.2.2.2.2.1
  have hv := va_recv (ci := 5) (q := (RX5, TX5, 5)) C.2.2.2.2.2.2.1 P.1 rfl (WS_at (k := 0) (i := 0) rfl)
  have hv : ∃ cell : Cell, H[rA G 0 0]? = some cell ∧ cell.vm.isStatics = false ∧ s.vm.findClass y.cls = some cell.cls := by rw [hy]; exact hv
  have hp := preX_S C X.1 P (As := .ref (rA G 0 0) :: As)
  have hr := vx_runV (e := e) (below := below) (meth := meth) (R := R) (H := H) (locs := locs) (cells := 0) (slots := 0) (C := y.cls) (b := rA G 0 0) (As := As) (rest := rest) (g := F0 m pc ls st0) ⟨C.1, C.2.1, C.2.2.1, C.2.2.2.2.1, hts⟩ hM ⟨hb, hts _ hb'.1, hts _ hb'.2⟩ ⟨hp.1, hv, hp.2⟩ rfl hn hsz hst (lv_room hw) d1 ⟨by show 0 + mcx code ≤ _; omega, by show 0 + 6 * mcx code ≤ _; omega⟩
  intro T hT X0
  rcases hr T hT X0 with ⟨v, st₀, t, T', L, h0, X', hL, e1, e2, ⟨hc0, hv, hP1, hz, hk⟩, st⟩ | ⟨qa, st₀, t, T', L, E, ce, h0, X', hL, e1, e2, ⟨hE, hc0, hP1, hz, hk⟩, hcell, hvm, hcl, st⟩
  · cases hv
    rw [h0] at hz hk
    have hS : va_S (fr G) s.heap T'.heap (locs ++ L) := ⟨Nat.le_trans P.2.1 (by rw [e1]; exact hz), fun q h1 h2 => by rw [e1, hk q (Nat.lt_of_lt_of_le h1 P.2.1) h2]; exact P.2.2.1 q h1 h2, fun q hq => by
      rcases List.mem_append.mp hq with h | h
      · exact P.2.2.2 q h
      · exact hL q h⟩
    subst hc0
    obtain ⟨t2, a1, b1⟩ := kk T'.heap (locs ++ L) ⟨by rw [e1]; exact hP1, hS⟩ rfl T' rfl X'
    exact ⟨t2, st t2 a1, b1⟩
  · rw [h0] at hz hk
    have hS : va_S (fr G) s.heap T'.heap (locs ++ L) := ⟨Nat.le_trans P.2.1 (by rw [e1]; exact hz), fun q h1 h2 => by rw [e1, hk q (Nat.lt_of_lt_of_le h1 P.2.1) h2]; exact P.2.2.1 q h1 h2, fun q hq => by
      rcases List.mem_append.mp hq with h | h
      · exact P.2.2.2 q h
      · exact hL q h⟩
    subst hE
    have X2 : Stand p l e R s m args below meth c T' (locs ++ L) (mcx code) (6 * mcx code) := by
      have h1 : 0 + mcx code = mcx code := Nat.zero_add _
      have h2 : 0 + 6 * mcx code = 6 * mcx code := Nat.zero_add _
      rw [h1, h2] at X'
      exact X'
    obtain ⟨t2, a1, b1⟩ := kx T'.heap (locs ++ L) ce qa ⟨by rw [e1]; exact hP1, hS⟩ hc0 (by rw [e1]; exact hcell) hvm hcl T' rfl X2
    exact ⟨t2, st.trans a1, b1⟩
end WR
theorem cf_L_7 : CallF false RL 7 yX5_make cX5_make 4 (some .int) 3 := ⟨wd_633, (by rw [if_neg (by decide)]; exact ⟨wd_634, wd_635⟩), wd_65, wd_636, by decide, by decide +kernel⟩
theorem dL_make_0 : Dc cL_make 0 (.aload 4) 2 2 := ⟨by decide +kernel, rfl⟩
theorem dL_make_2 : Dc cL_make 2 (.iconst 0) 1 3 := ⟨by decide +kernel, rfl⟩
theorem dL_make_3 : Dc cL_make 3 (.aload_n 0) 1 4 := ⟨by decide +kernel, rfl⟩
theorem dL_make_4 : Dc cL_make 4 (.iload_n 1) 1 5 := ⟨by decide +kernel, rfl⟩
theorem dL_make_5 : Dc cL_make 5 (.iload_n 2) 1 6 := ⟨by decide +kernel, rfl⟩
theorem dL_make_6 : Dc cL_make 6 (.iload_n 3) 1 7 := ⟨by decide +kernel, rfl⟩
theorem dL_make_7 : Dc cL_make 7 (.invokevirtual 7) 3 10 := ⟨by decide +kernel, rfl⟩
theorem dL_make_10 : Dc cL_make 10 (.i2l) 1 11 := ⟨by decide +kernel, rfl⟩
theorem dL_make_11 : Dc cL_make 11 (.lastore) 1 12 := ⟨by decide +kernel, rfl⟩
theorem dL_make_12 : Dj cL_make 12 (.goto 11) 3 15 (11) 23 := ⟨by decide +kernel, rfl, by decide⟩
theorem dL_make_15 : Dc cL_make 15 (.astore 5) 2 17 := ⟨by decide +kernel, rfl⟩
theorem dL_make_17 : Dc cL_make 17 (.iconst 1) 1 18 := ⟨by decide +kernel, rfl⟩
theorem dL_make_18 : Dc cL_make 18 (.ireturn) 1 19 := ⟨by decide +kernel, rfl⟩
theorem dL_make_19 : Dc cL_make 19 (.astore 5) 2 21 := ⟨by decide +kernel, rfl⟩
theorem dL_make_21 : Dc cL_make 21 (.iconst 2) 1 22 := ⟨by decide +kernel, rfl⟩
theorem dL_make_22 : Dc cL_make 22 (.ireturn) 1 23 := ⟨by decide +kernel, rfl⟩
theorem dL_make_23 : Dc cL_make 23 (.iconst 0) 1 24 := ⟨by decide +kernel, rfl⟩
theorem dL_make_24 : Dc cL_make 24 (.ireturn) 1 25 := ⟨by decide +kernel, rfl⟩
def F_L_make (o : OM) (v1 : Int32) (v2 : Int32) (v3 : Int32) : Option (Int32 × OM) := bn (F_X5_make o v1 v2 v3) (fun q o1 => grd (okc [1, 2] q.1) (some (wk [1, 2] q.1, wo q o1)))
abbrev rmL_make : Room := { frames := 7, cells := 0, slots := 0, locals := 148 }
set_option maxHeartbeats 4000000 in
set_option maxRecDepth 100000 in
theorem ctL_make (l : Launch) (G : Gd) (hl9 : l.stackTraces = false) (o : OM) (v1 : Int32) (v2 : Int32) (v3 : Int32) {k : Int32} {o9 : OM} (hf : F_L_make o v1 v2 v3 = some (k, o9)) : ∃ code, Ctw l yL_make cL_make 6 [(0, 12, 15, 13), (0, 12, 19, 15)] rmL_make G [.ref (rA G 0 0), .int v1, .int v2, .int v3, .ref (rA G 24 0)] o code k o9 := by
  obtain ⟨q, o1, h1, h2⟩ := bn_s hf
  obtain ⟨g2, h3⟩ := grd_s h2
  cases h3
  obtain ⟨code, v⟩ := q
  refine ⟨code, ctw_of (by decide) (Nat.le_of_ble_eq_true rfl) (fun p e s m below meth c ls C hT X P hl => ?_)⟩
  have C : Cx G RL cL_make 6 (some .int) p s m _ meth c := C
  have hl : lv_has ls 6 [(0, .ref (rA G 0 0)), (1, .int v1), (2, .int v2), (3, .int v3), (4, .ref (rA G 24 0))] := hl
  have hle : mcx code ≤ 1 := by unfold mcx; split <;> omega
  refine r_aload C hl 4 rfl dL_make_0 ?_
  refine r_iconst C (v := 0) (by decide) dL_make_2 ?_
  refine r_aload_n C hl 0 rfl rfl dL_make_3 ?_
  refine r_iload_n C hl 1 rfl rfl dL_make_4 ?_
  refine r_iload_n C hl 2 rfl rfl dL_make_5 ?_
  refine r_iload_n C hl 3 rfl rfl dL_make_6 ?_
  refine w_call C X P cf_L_7 (rm := rmX5_make) rfl [.int v1, .int v2, .int v3] [.int 0, .ref (rA G 24 0)] (ctX5_make l G hl9 o v1 v2 v3 h1) ⟨Nat.le_of_ble_eq_true rfl, Nat.le_of_ble_eq_true rfl⟩ ⟨by show mcx code ≤ mcx code; omega, by show 6 * mcx code ≤ 6 * mcx code; omega⟩ rfl rfl hl.1 (Nat.le_of_ble_eq_true rfl) dL_make_7 (fun H1 L1 P hc => ?_) (fun H1 L1 ce qa P hc hcell hvm hcl => ?_)
  · subst hc
    refine r_i2l C dL_make_10 ?_
    refine w_last C P dL_make_11 (fun H1 L1 P => ?_)
    refine r_goto C dL_make_12 ?_
    refine r_iconst C (v := 0) (by decide) dL_make_23 ?_
    exact w_iret C P ⟨rfl, rfl⟩ dL_make_24
  · have hcs : code = 1 ∨ code = 2 := by
      simp only [okc, Bool.or_eq_true, decide_eq_true_eq] at g2
      rcases g2 with g2 | g2
      · exact absurd g2 hc
      · simpa using g2
    rcases hcs with rfl | rfl
    · refine vx_catch C.2.2.2.2.1 [] { startPc := 0, endPc := 12, handlerPc := 15, catchType := 13 } [{ startPc := 0, endPc := 12, handlerPc := 19, catchType := 15 }] hT (fun z hz => nomatch hz) (by decide) (by decide) (C.2.2.2.2.2.1 _ wd_631) (va_Nw.use rfl (X.1.2.2.1 (.castable "java/lang/IllegalArgumentException" "java/lang/IllegalArgumentException") (by decide))) hcell hvm hcl ?_
      refine r_astore C [(5, .ref qa), (0, .ref (rA G 0 0)), (1, .int v1), (2, .int v2), (3, .int v3), (4, .ref (rA G 24 0))] hl (by decide) rfl dL_make_15 (fun ls hl => ?_)
      refine r_iconst C (v := 1) (by decide) dL_make_17 ?_
      exact w_iret C P ⟨rfl, rfl⟩ dL_make_18
    · refine vx_catch C.2.2.2.2.1 [{ startPc := 0, endPc := 12, handlerPc := 15, catchType := 13 }] { startPc := 0, endPc := 12, handlerPc := 19, catchType := 15 } [] hT (fun z hz => by
        simp only [List.mem_singleton] at hz
        subst hz
        exact Or.inr ⟨by decide, "java/lang/IllegalArgumentException", C.2.2.2.2.2.1 _ wd_631, X.2 ("java/lang/IllegalStateException", "java/lang/IllegalArgumentException") (by decide)⟩) (by decide) (by decide) (C.2.2.2.2.2.1 _ wd_632) (va_Nw.use rfl (X.1.2.2.1 (.castable "java/lang/IllegalStateException" "java/lang/IllegalStateException") (by decide))) hcell hvm hcl ?_
      refine r_astore C [(5, .ref qa), (0, .ref (rA G 0 0)), (1, .int v1), (2, .int v2), (3, .int v3), (4, .ref (rA G 24 0))] hl (by decide) rfl dL_make_19 (fun ls hl => ?_)
      refine r_iconst C (v := 2) (by decide) dL_make_21 ?_
      exact w_iret C P ⟨rfl, rfl⟩ dL_make_22
theorem cf_L_17 : CallF false RL 17 yX5_breakOne cX5_breakOne 3 (some .int) 1 := ⟨wd_676, (by rw [if_neg (by decide)]; exact ⟨wd_677, wd_678⟩), wd_65, wd_679, by decide, by decide +kernel⟩
theorem dL_breakOne_0 : Dc cL_breakOne 0 (.aload_n 2) 1 1 := ⟨by decide +kernel, rfl⟩
theorem dL_breakOne_1 : Dc cL_breakOne 1 (.iconst 0) 1 2 := ⟨by decide +kernel, rfl⟩
theorem dL_breakOne_2 : Dc cL_breakOne 2 (.aload_n 0) 1 3 := ⟨by decide +kernel, rfl⟩
theorem dL_breakOne_3 : Dc cL_breakOne 3 (.iload_n 1) 1 4 := ⟨by decide +kernel, rfl⟩
theorem dL_breakOne_4 : Dc cL_breakOne 4 (.invokevirtual 17) 3 7 := ⟨by decide +kernel, rfl⟩
theorem dL_breakOne_7 : Dc cL_breakOne 7 (.i2l) 1 8 := ⟨by decide +kernel, rfl⟩
theorem dL_breakOne_8 : Dc cL_breakOne 8 (.lastore) 1 9 := ⟨by decide +kernel, rfl⟩
theorem dL_breakOne_9 : Dj cL_breakOne 9 (.goto 6) 3 12 (6) 15 := ⟨by decide +kernel, rfl, by decide⟩
theorem dL_breakOne_12 : Dc cL_breakOne 12 (.astore_n 3) 1 13 := ⟨by decide +kernel, rfl⟩
theorem dL_breakOne_13 : Dc cL_breakOne 13 (.iconst 1) 1 14 := ⟨by decide +kernel, rfl⟩
theorem dL_breakOne_14 : Dc cL_breakOne 14 (.ireturn) 1 15 := ⟨by decide +kernel, rfl⟩
theorem dL_breakOne_15 : Dc cL_breakOne 15 (.iconst 0) 1 16 := ⟨by decide +kernel, rfl⟩
theorem dL_breakOne_16 : Dc cL_breakOne 16 (.ireturn) 1 17 := ⟨by decide +kernel, rfl⟩
def F_L_breakOne (o : OM) (v1 : Int32) : Option (Int32 × OM) := bn (F_X5_breakOne o v1) (fun q o1 => grd (okc [3] q.1) (some (wk [3] q.1, wo q o1)))
abbrev rmL_breakOne : Room := { frames := 8, cells := 0, slots := 0, locals := 147 }
set_option maxHeartbeats 4000000 in
set_option maxRecDepth 100000 in
theorem ctL_breakOne (l : Launch) (G : Gd) (hl9 : l.stackTraces = false) (o : OM) (v1 : Int32) {k : Int32} {o9 : OM} (hf : F_L_breakOne o v1 = some (k, o9)) : ∃ code, Ctw l yL_breakOne cL_breakOne 4 [(0, 9, 12, 21)] rmL_breakOne G [.ref (rA G 0 0), .int v1, .ref (rA G 24 0)] o code k o9 := by
  obtain ⟨q, o1, h1, h2⟩ := bn_s hf
  obtain ⟨g2, h3⟩ := grd_s h2
  cases h3
  obtain ⟨code, v⟩ := q
  refine ⟨code, ctw_of (by decide) (Nat.le_of_ble_eq_true rfl) (fun p e s m below meth c ls C hT X P hl => ?_)⟩
  have C : Cx G RL cL_breakOne 4 (some .int) p s m _ meth c := C
  have hl : lv_has ls 4 [(0, .ref (rA G 0 0)), (1, .int v1), (2, .ref (rA G 24 0))] := hl
  have hle : mcx code ≤ 1 := by unfold mcx; split <;> omega
  refine r_aload_n C hl 2 rfl rfl dL_breakOne_0 ?_
  refine r_iconst C (v := 0) (by decide) dL_breakOne_1 ?_
  refine r_aload_n C hl 0 rfl rfl dL_breakOne_2 ?_
  refine r_iload_n C hl 1 rfl rfl dL_breakOne_3 ?_
  refine w_call C X P cf_L_17 (rm := rmX5_breakOne) rfl [.int v1] [.int 0, .ref (rA G 24 0)] (ctX5_breakOne l G hl9 o v1 h1) ⟨Nat.le_of_ble_eq_true rfl, Nat.le_of_ble_eq_true rfl⟩ ⟨by show mcx code ≤ mcx code; omega, by show 6 * mcx code ≤ 6 * mcx code; omega⟩ rfl rfl hl.1 (Nat.le_of_ble_eq_true rfl) dL_breakOne_4 (fun H1 L1 P hc => ?_) (fun H1 L1 ce qa P hc hcell hvm hcl => ?_)
  · subst hc
    refine r_i2l C dL_breakOne_7 ?_
    refine w_last C P dL_breakOne_8 (fun H1 L1 P => ?_)
    refine r_goto C dL_breakOne_9 ?_
    refine r_iconst C (v := 0) (by decide) dL_breakOne_15 ?_
    exact w_iret C P ⟨rfl, rfl⟩ dL_breakOne_16
  · have hcs : code = 3 := by
      simp only [okc, Bool.or_eq_true, decide_eq_true_eq] at g2
      rcases g2 with g2 | g2
      · exact absurd g2 hc
      · simpa using g2
    rcases hcs with rfl
    · refine vx_catch C.2.2.2.2.1 [] { startPc := 0, endPc := 9, handlerPc := 12, catchType := 21 } [] hT (fun z hz => nomatch hz) (by decide) (by decide) (C.2.2.2.2.2.1 _ wd_675) (va_Nw.use rfl (X.1.2.2.1 (.castable "java/lang/IndexOutOfBoundsException" "java/lang/IndexOutOfBoundsException") (by decide))) hcell hvm hcl ?_
      refine r_astore_n C [(3, .ref qa), (0, .ref (rA G 0 0)), (1, .int v1), (2, .ref (rA G 24 0))] hl (by decide) rfl rfl dL_breakOne_12 (fun ls hl => ?_)
      refine r_iconst C (v := 1) (by decide) dL_breakOne_13 ?_
      exact w_iret C P ⟨rfl, rfl⟩ dL_breakOne_14
theorem cf_L_23 : CallF false RL 23 yX5_bath cX5_bath 4 (some .int) 2 := ⟨wd_688, (by rw [if_neg (by decide)]; exact ⟨wd_689, wd_690⟩), wd_65, wd_691, by decide, by decide +kernel⟩
theorem dL_bath_0 : Dc cL_bath 0 (.aload_n 3) 1 1 := ⟨by decide +kernel, rfl⟩
theorem dL_bath_1 : Dc cL_bath 1 (.iconst 0) 1 2 := ⟨by decide +kernel, rfl⟩
theorem dL_bath_2 : Dc cL_bath 2 (.aload_n 0) 1 3 := ⟨by decide +kernel, rfl⟩
theorem dL_bath_3 : Dc cL_bath 3 (.iload_n 1) 1 4 := ⟨by decide +kernel, rfl⟩
theorem dL_bath_4 : Dc cL_bath 4 (.iload_n 2) 1 5 := ⟨by decide +kernel, rfl⟩
theorem dL_bath_5 : Dc cL_bath 5 (.invokevirtual 23) 3 8 := ⟨by decide +kernel, rfl⟩
theorem dL_bath_8 : Dc cL_bath 8 (.i2l) 1 9 := ⟨by decide +kernel, rfl⟩
theorem dL_bath_9 : Dc cL_bath 9 (.lastore) 1 10 := ⟨by decide +kernel, rfl⟩
theorem dL_bath_10 : Dj cL_bath 10 (.goto 11) 3 13 (11) 21 := ⟨by decide +kernel, rfl, by decide⟩
theorem dL_bath_13 : Dc cL_bath 13 (.astore 4) 2 15 := ⟨by decide +kernel, rfl⟩
theorem dL_bath_15 : Dc cL_bath 15 (.iconst 1) 1 16 := ⟨by decide +kernel, rfl⟩
theorem dL_bath_16 : Dc cL_bath 16 (.ireturn) 1 17 := ⟨by decide +kernel, rfl⟩
theorem dL_bath_17 : Dc cL_bath 17 (.astore 4) 2 19 := ⟨by decide +kernel, rfl⟩
theorem dL_bath_19 : Dc cL_bath 19 (.iconst 2) 1 20 := ⟨by decide +kernel, rfl⟩
theorem dL_bath_20 : Dc cL_bath 20 (.ireturn) 1 21 := ⟨by decide +kernel, rfl⟩
theorem dL_bath_21 : Dc cL_bath 21 (.iconst 0) 1 22 := ⟨by decide +kernel, rfl⟩
theorem dL_bath_22 : Dc cL_bath 22 (.ireturn) 1 23 := ⟨by decide +kernel, rfl⟩
def F_L_bath (o : OM) (v1 : Int32) (v2 : Int32) : Option (Int32 × OM) := bn (F_X5_bath o v1 v2) (fun q o1 => grd (okc [3, 1] q.1) (some (wk [3, 1] q.1, wo q o1)))
abbrev rmL_bath : Room := { frames := 8, cells := 0, slots := 0, locals := 148 }
set_option maxHeartbeats 4000000 in
set_option maxRecDepth 100000 in
theorem ctL_bath (l : Launch) (G : Gd) (hl9 : l.stackTraces = false) (o : OM) (v1 : Int32) (v2 : Int32) {k : Int32} {o9 : OM} (hf : F_L_bath o v1 v2 = some (k, o9)) : ∃ code, Ctw l yL_bath cL_bath 5 [(0, 10, 13, 21), (0, 10, 17, 13)] rmL_bath G [.ref (rA G 0 0), .int v1, .int v2, .ref (rA G 24 0)] o code k o9 := by
  obtain ⟨q, o1, h1, h2⟩ := bn_s hf
  obtain ⟨g2, h3⟩ := grd_s h2
  cases h3
  obtain ⟨code, v⟩ := q
  refine ⟨code, ctw_of (by decide) (Nat.le_of_ble_eq_true rfl) (fun p e s m below meth c ls C hT X P hl => ?_)⟩
  have C : Cx G RL cL_bath 5 (some .int) p s m _ meth c := C
  have hl : lv_has ls 5 [(0, .ref (rA G 0 0)), (1, .int v1), (2, .int v2), (3, .ref (rA G 24 0))] := hl
  have hle : mcx code ≤ 1 := by unfold mcx; split <;> omega
  refine r_aload_n C hl 3 rfl rfl dL_bath_0 ?_
  refine r_iconst C (v := 0) (by decide) dL_bath_1 ?_
  refine r_aload_n C hl 0 rfl rfl dL_bath_2 ?_
  refine r_iload_n C hl 1 rfl rfl dL_bath_3 ?_
  refine r_iload_n C hl 2 rfl rfl dL_bath_4 ?_
  refine w_call C X P cf_L_23 (rm := rmX5_bath) rfl [.int v1, .int v2] [.int 0, .ref (rA G 24 0)] (ctX5_bath l G hl9 o v1 v2 h1) ⟨Nat.le_of_ble_eq_true rfl, Nat.le_of_ble_eq_true rfl⟩ ⟨by show mcx code ≤ mcx code; omega, by show 6 * mcx code ≤ 6 * mcx code; omega⟩ rfl rfl hl.1 (Nat.le_of_ble_eq_true rfl) dL_bath_5 (fun H1 L1 P hc => ?_) (fun H1 L1 ce qa P hc hcell hvm hcl => ?_)
  · subst hc
    refine r_i2l C dL_bath_8 ?_
    refine w_last C P dL_bath_9 (fun H1 L1 P => ?_)
    refine r_goto C dL_bath_10 ?_
    refine r_iconst C (v := 0) (by decide) dL_bath_21 ?_
    exact w_iret C P ⟨rfl, rfl⟩ dL_bath_22
  · have hcs : code = 3 ∨ code = 1 := by
      simp only [okc, Bool.or_eq_true, decide_eq_true_eq] at g2
      rcases g2 with g2 | g2
      · exact absurd g2 hc
      · simpa using g2
    rcases hcs with rfl | rfl
    · refine vx_catch C.2.2.2.2.1 [] { startPc := 0, endPc := 10, handlerPc := 13, catchType := 21 } [{ startPc := 0, endPc := 10, handlerPc := 17, catchType := 13 }] hT (fun z hz => nomatch hz) (by decide) (by decide) (C.2.2.2.2.2.1 _ wd_675) (va_Nw.use rfl (X.1.2.2.1 (.castable "java/lang/IndexOutOfBoundsException" "java/lang/IndexOutOfBoundsException") (by decide))) hcell hvm hcl ?_
      refine r_astore C [(4, .ref qa), (0, .ref (rA G 0 0)), (1, .int v1), (2, .int v2), (3, .ref (rA G 24 0))] hl (by decide) rfl dL_bath_13 (fun ls hl => ?_)
      refine r_iconst C (v := 1) (by decide) dL_bath_15 ?_
      exact w_iret C P ⟨rfl, rfl⟩ dL_bath_16
    · refine vx_catch C.2.2.2.2.1 [{ startPc := 0, endPc := 10, handlerPc := 13, catchType := 21 }] { startPc := 0, endPc := 10, handlerPc := 17, catchType := 13 } [] hT (fun z hz => by
        simp only [List.mem_singleton] at hz
        subst hz
        exact Or.inr ⟨by decide, "java/lang/IndexOutOfBoundsException", C.2.2.2.2.2.1 _ wd_675, X.2 ("java/lang/IllegalArgumentException", "java/lang/IndexOutOfBoundsException") (by decide)⟩) (by decide) (by decide) (C.2.2.2.2.2.1 _ wd_631) (va_Nw.use rfl (X.1.2.2.1 (.castable "java/lang/IllegalArgumentException" "java/lang/IllegalArgumentException") (by decide))) hcell hvm hcl ?_
      refine r_astore C [(4, .ref qa), (0, .ref (rA G 0 0)), (1, .int v1), (2, .int v2), (3, .ref (rA G 24 0))] hl (by decide) rfl dL_bath_17 (fun ls hl => ?_)
      refine r_iconst C (v := 2) (by decide) dL_bath_19 ?_
      exact w_iret C P ⟨rfl, rfl⟩ dL_bath_20
theorem cf_L_27 : CallF false RL 27 yX5_pass cX5_pass 2 (some .int) 1 := ⟨wd_695, (by rw [if_neg (by decide)]; exact ⟨wd_696, wd_697⟩), wd_65, wd_698, by decide, by decide +kernel⟩
theorem dL_pass_0 : Dc cL_pass 0 (.aload_n 2) 1 1 := ⟨by decide +kernel, rfl⟩
theorem dL_pass_1 : Dc cL_pass 1 (.iconst 0) 1 2 := ⟨by decide +kernel, rfl⟩
theorem dL_pass_2 : Dc cL_pass 2 (.aload_n 0) 1 3 := ⟨by decide +kernel, rfl⟩
theorem dL_pass_3 : Dc cL_pass 3 (.iload_n 1) 1 4 := ⟨by decide +kernel, rfl⟩
theorem dL_pass_4 : Dc cL_pass 4 (.invokevirtual 27) 3 7 := ⟨by decide +kernel, rfl⟩
theorem dL_pass_7 : Dc cL_pass 7 (.i2l) 1 8 := ⟨by decide +kernel, rfl⟩
theorem dL_pass_8 : Dc cL_pass 8 (.lastore) 1 9 := ⟨by decide +kernel, rfl⟩
theorem dL_pass_9 : Dj cL_pass 9 (.goto 6) 3 12 (6) 15 := ⟨by decide +kernel, rfl, by decide⟩
theorem dL_pass_12 : Dc cL_pass 12 (.astore_n 3) 1 13 := ⟨by decide +kernel, rfl⟩
theorem dL_pass_13 : Dc cL_pass 13 (.iconst 1) 1 14 := ⟨by decide +kernel, rfl⟩
theorem dL_pass_14 : Dc cL_pass 14 (.ireturn) 1 15 := ⟨by decide +kernel, rfl⟩
theorem dL_pass_15 : Dc cL_pass 15 (.iconst 0) 1 16 := ⟨by decide +kernel, rfl⟩
theorem dL_pass_16 : Dc cL_pass 16 (.ireturn) 1 17 := ⟨by decide +kernel, rfl⟩
def F_L_pass (o : OM) (v1 : Int32) : Option (Int32 × OM) := bn (F_X5_pass o v1) (fun q o1 => grd (okc [1] q.1) (some (wk [1] q.1, wo q o1)))
abbrev rmL_pass : Room := { frames := 7, cells := 0, slots := 0, locals := 146 }
set_option maxHeartbeats 4000000 in
set_option maxRecDepth 100000 in
theorem ctL_pass (l : Launch) (G : Gd) (hl9 : l.stackTraces = false) (o : OM) (v1 : Int32) {k : Int32} {o9 : OM} (hf : F_L_pass o v1 = some (k, o9)) : ∃ code, Ctw l yL_pass cL_pass 4 [(0, 9, 12, 13)] rmL_pass G [.ref (rA G 0 0), .int v1, .ref (rA G 24 0)] o code k o9 := by
  obtain ⟨q, o1, h1, h2⟩ := bn_s hf
  obtain ⟨g2, h3⟩ := grd_s h2
  cases h3
  obtain ⟨code, v⟩ := q
  refine ⟨code, ctw_of (by decide) (Nat.le_of_ble_eq_true rfl) (fun p e s m below meth c ls C hT X P hl => ?_)⟩
  have C : Cx G RL cL_pass 4 (some .int) p s m _ meth c := C
  have hl : lv_has ls 4 [(0, .ref (rA G 0 0)), (1, .int v1), (2, .ref (rA G 24 0))] := hl
  have hle : mcx code ≤ 1 := by unfold mcx; split <;> omega
  refine r_aload_n C hl 2 rfl rfl dL_pass_0 ?_
  refine r_iconst C (v := 0) (by decide) dL_pass_1 ?_
  refine r_aload_n C hl 0 rfl rfl dL_pass_2 ?_
  refine r_iload_n C hl 1 rfl rfl dL_pass_3 ?_
  refine w_call C X P cf_L_27 (rm := rmX5_pass) rfl [.int v1] [.int 0, .ref (rA G 24 0)] (ctX5_pass l G hl9 o v1 h1) ⟨Nat.le_of_ble_eq_true rfl, Nat.le_of_ble_eq_true rfl⟩ ⟨by show mcx code ≤ mcx code; omega, by show 6 * mcx code ≤ 6 * mcx code; omega⟩ rfl rfl hl.1 (Nat.le_of_ble_eq_true rfl) dL_pass_4 (fun H1 L1 P hc => ?_) (fun H1 L1 ce qa P hc hcell hvm hcl => ?_)
  · subst hc
    refine r_i2l C dL_pass_7 ?_
    refine w_last C P dL_pass_8 (fun H1 L1 P => ?_)
    refine r_goto C dL_pass_9 ?_
    refine r_iconst C (v := 0) (by decide) dL_pass_15 ?_
    exact w_iret C P ⟨rfl, rfl⟩ dL_pass_16
  · have hcs : code = 1 := by
      simp only [okc, Bool.or_eq_true, decide_eq_true_eq] at g2
      rcases g2 with g2 | g2
      · exact absurd g2 hc
      · simpa using g2
    rcases hcs with rfl
    · refine vx_catch C.2.2.2.2.1 [] { startPc := 0, endPc := 9, handlerPc := 12, catchType := 13 } [] hT (fun z hz => nomatch hz) (by decide) (by decide) (C.2.2.2.2.2.1 _ wd_631) (va_Nw.use rfl (X.1.2.2.1 (.castable "java/lang/IllegalArgumentException" "java/lang/IllegalArgumentException") (by decide))) hcell hvm hcl ?_
      refine r_astore_n C [(3, .ref qa), (0, .ref (rA G 0 0)), (1, .int v1), (2, .ref (rA G 24 0))] hl (by decide) rfl rfl dL_pass_12 (fun ls hl => ?_)
      refine r_iconst C (v := 1) (by decide) dL_pass_13 ?_
      exact w_iret C P ⟨rfl, rfl⟩ dL_pass_14
theorem cf_L_30 : CallF false RL 30 yX5_set cX5_set 4 (some .int) 2 := ⟨wd_712, (by rw [if_neg (by decide)]; exact ⟨wd_713, wd_714⟩), wd_65, wd_715, by decide, by decide +kernel⟩
theorem dL_set_0 : Dc cL_set 0 (.aload_n 3) 1 1 := ⟨by decide +kernel, rfl⟩
theorem dL_set_1 : Dc cL_set 1 (.iconst 0) 1 2 := ⟨by decide +kernel, rfl⟩
theorem dL_set_2 : Dc cL_set 2 (.aload_n 0) 1 3 := ⟨by decide +kernel, rfl⟩
theorem dL_set_3 : Dc cL_set 3 (.iload_n 1) 1 4 := ⟨by decide +kernel, rfl⟩
theorem dL_set_4 : Dc cL_set 4 (.iload_n 2) 1 5 := ⟨by decide +kernel, rfl⟩
theorem dL_set_5 : Dc cL_set 5 (.invokevirtual 30) 3 8 := ⟨by decide +kernel, rfl⟩
theorem dL_set_8 : Dc cL_set 8 (.i2l) 1 9 := ⟨by decide +kernel, rfl⟩
theorem dL_set_9 : Dc cL_set 9 (.lastore) 1 10 := ⟨by decide +kernel, rfl⟩
theorem dL_set_10 : Dj cL_set 10 (.goto 11) 3 13 (11) 21 := ⟨by decide +kernel, rfl, by decide⟩
theorem dL_set_13 : Dc cL_set 13 (.astore 4) 2 15 := ⟨by decide +kernel, rfl⟩
theorem dL_set_15 : Dc cL_set 15 (.iconst 1) 1 16 := ⟨by decide +kernel, rfl⟩
theorem dL_set_16 : Dc cL_set 16 (.ireturn) 1 17 := ⟨by decide +kernel, rfl⟩
theorem dL_set_17 : Dc cL_set 17 (.astore 4) 2 19 := ⟨by decide +kernel, rfl⟩
theorem dL_set_19 : Dc cL_set 19 (.iconst 2) 1 20 := ⟨by decide +kernel, rfl⟩
theorem dL_set_20 : Dc cL_set 20 (.ireturn) 1 21 := ⟨by decide +kernel, rfl⟩
theorem dL_set_21 : Dc cL_set 21 (.iconst 0) 1 22 := ⟨by decide +kernel, rfl⟩
theorem dL_set_22 : Dc cL_set 22 (.ireturn) 1 23 := ⟨by decide +kernel, rfl⟩
def F_L_set (o : OM) (v1 : Int32) (v2 : Int32) : Option (Int32 × OM) := bn (F_X5_set o v1 v2) (fun q o1 => grd (okc [3, 1] q.1) (some (wk [3, 1] q.1, wo q o1)))
abbrev rmL_set : Room := { frames := 7, cells := 0, slots := 0, locals := 148 }
set_option maxHeartbeats 4000000 in
set_option maxRecDepth 100000 in
theorem ctL_set (l : Launch) (G : Gd) (hl9 : l.stackTraces = false) (o : OM) (v1 : Int32) (v2 : Int32) {k : Int32} {o9 : OM} (hf : F_L_set o v1 v2 = some (k, o9)) : ∃ code, Ctw l yL_set cL_set 5 [(0, 10, 13, 21), (0, 10, 17, 13)] rmL_set G [.ref (rA G 0 0), .int v1, .int v2, .ref (rA G 24 0)] o code k o9 := by
  obtain ⟨q, o1, h1, h2⟩ := bn_s hf
  obtain ⟨g2, h3⟩ := grd_s h2
  cases h3
  obtain ⟨code, v⟩ := q
  refine ⟨code, ctw_of (by decide) (Nat.le_of_ble_eq_true rfl) (fun p e s m below meth c ls C hT X P hl => ?_)⟩
  have C : Cx G RL cL_set 5 (some .int) p s m _ meth c := C
  have hl : lv_has ls 5 [(0, .ref (rA G 0 0)), (1, .int v1), (2, .int v2), (3, .ref (rA G 24 0))] := hl
  have hle : mcx code ≤ 1 := by unfold mcx; split <;> omega
  refine r_aload_n C hl 3 rfl rfl dL_set_0 ?_
  refine r_iconst C (v := 0) (by decide) dL_set_1 ?_
  refine r_aload_n C hl 0 rfl rfl dL_set_2 ?_
  refine r_iload_n C hl 1 rfl rfl dL_set_3 ?_
  refine r_iload_n C hl 2 rfl rfl dL_set_4 ?_
  refine w_call C X P cf_L_30 (rm := rmX5_set) rfl [.int v1, .int v2] [.int 0, .ref (rA G 24 0)] (ctX5_set l G hl9 o v1 v2 h1) ⟨Nat.le_of_ble_eq_true rfl, Nat.le_of_ble_eq_true rfl⟩ ⟨by show mcx code ≤ mcx code; omega, by show 6 * mcx code ≤ 6 * mcx code; omega⟩ rfl rfl hl.1 (Nat.le_of_ble_eq_true rfl) dL_set_5 (fun H1 L1 P hc => ?_) (fun H1 L1 ce qa P hc hcell hvm hcl => ?_)
  · subst hc
    refine r_i2l C dL_set_8 ?_
    refine w_last C P dL_set_9 (fun H1 L1 P => ?_)
    refine r_goto C dL_set_10 ?_
    refine r_iconst C (v := 0) (by decide) dL_set_21 ?_
    exact w_iret C P ⟨rfl, rfl⟩ dL_set_22
  · have hcs : code = 3 ∨ code = 1 := by
      simp only [okc, Bool.or_eq_true, decide_eq_true_eq] at g2
      rcases g2 with g2 | g2
      · exact absurd g2 hc
      · simpa using g2
    rcases hcs with rfl | rfl
    · refine vx_catch C.2.2.2.2.1 [] { startPc := 0, endPc := 10, handlerPc := 13, catchType := 21 } [{ startPc := 0, endPc := 10, handlerPc := 17, catchType := 13 }] hT (fun z hz => nomatch hz) (by decide) (by decide) (C.2.2.2.2.2.1 _ wd_675) (va_Nw.use rfl (X.1.2.2.1 (.castable "java/lang/IndexOutOfBoundsException" "java/lang/IndexOutOfBoundsException") (by decide))) hcell hvm hcl ?_
      refine r_astore C [(4, .ref qa), (0, .ref (rA G 0 0)), (1, .int v1), (2, .int v2), (3, .ref (rA G 24 0))] hl (by decide) rfl dL_set_13 (fun ls hl => ?_)
      refine r_iconst C (v := 1) (by decide) dL_set_15 ?_
      exact w_iret C P ⟨rfl, rfl⟩ dL_set_16
    · refine vx_catch C.2.2.2.2.1 [{ startPc := 0, endPc := 10, handlerPc := 13, catchType := 21 }] { startPc := 0, endPc := 10, handlerPc := 17, catchType := 13 } [] hT (fun z hz => by
        simp only [List.mem_singleton] at hz
        subst hz
        exact Or.inr ⟨by decide, "java/lang/IndexOutOfBoundsException", C.2.2.2.2.2.1 _ wd_675, X.2 ("java/lang/IllegalArgumentException", "java/lang/IndexOutOfBoundsException") (by decide)⟩) (by decide) (by decide) (C.2.2.2.2.2.1 _ wd_631) (va_Nw.use rfl (X.1.2.2.1 (.castable "java/lang/IllegalArgumentException" "java/lang/IllegalArgumentException") (by decide))) hcell hvm hcl ?_
      refine r_astore C [(4, .ref qa), (0, .ref (rA G 0 0)), (1, .int v1), (2, .int v2), (3, .ref (rA G 24 0))] hl (by decide) rfl dL_set_17 (fun ls hl => ?_)
      refine r_iconst C (v := 2) (by decide) dL_set_19 ?_
      exact w_iret C P ⟨rfl, rfl⟩ dL_set_20
theorem cf_L_33 : CallF false RL 33 yX5_measure cX5_measure 5 (some .int) 2 := ⟨wd_723, (by rw [if_neg (by decide)]; exact ⟨wd_724, wd_725⟩), wd_65, wd_726, by decide, by decide +kernel⟩
theorem dL_measure_0 : Dc cL_measure 0 (.aload_n 3) 1 1 := ⟨by decide +kernel, rfl⟩
theorem dL_measure_1 : Dc cL_measure 1 (.iconst 0) 1 2 := ⟨by decide +kernel, rfl⟩
theorem dL_measure_2 : Dc cL_measure 2 (.aload_n 0) 1 3 := ⟨by decide +kernel, rfl⟩
theorem dL_measure_3 : Dc cL_measure 3 (.iload_n 1) 1 4 := ⟨by decide +kernel, rfl⟩
theorem dL_measure_4 : Dc cL_measure 4 (.iload_n 2) 1 5 := ⟨by decide +kernel, rfl⟩
theorem dL_measure_5 : Dc cL_measure 5 (.invokevirtual 33) 3 8 := ⟨by decide +kernel, rfl⟩
theorem dL_measure_8 : Dc cL_measure 8 (.i2l) 1 9 := ⟨by decide +kernel, rfl⟩
theorem dL_measure_9 : Dc cL_measure 9 (.lastore) 1 10 := ⟨by decide +kernel, rfl⟩
theorem dL_measure_10 : Dj cL_measure 10 (.goto 11) 3 13 (11) 21 := ⟨by decide +kernel, rfl, by decide⟩
theorem dL_measure_13 : Dc cL_measure 13 (.astore 4) 2 15 := ⟨by decide +kernel, rfl⟩
theorem dL_measure_15 : Dc cL_measure 15 (.iconst 1) 1 16 := ⟨by decide +kernel, rfl⟩
theorem dL_measure_16 : Dc cL_measure 16 (.ireturn) 1 17 := ⟨by decide +kernel, rfl⟩
theorem dL_measure_17 : Dc cL_measure 17 (.astore 4) 2 19 := ⟨by decide +kernel, rfl⟩
theorem dL_measure_19 : Dc cL_measure 19 (.iconst 2) 1 20 := ⟨by decide +kernel, rfl⟩
theorem dL_measure_20 : Dc cL_measure 20 (.ireturn) 1 21 := ⟨by decide +kernel, rfl⟩
theorem dL_measure_21 : Dc cL_measure 21 (.iconst 0) 1 22 := ⟨by decide +kernel, rfl⟩
theorem dL_measure_22 : Dc cL_measure 22 (.ireturn) 1 23 := ⟨by decide +kernel, rfl⟩
def F_L_measure (o : OM) (v1 : Int32) (v2 : Int32) : Option (Int32 × OM) := bn (F_X5_measure o v1 v2) (fun q o1 => grd (okc [3, 2] q.1) (some (wk [3, 2] q.1, wo q o1)))
abbrev rmL_measure : Room := { frames := 8, cells := 0, slots := 0, locals := 149 }
set_option maxHeartbeats 4000000 in
set_option maxRecDepth 100000 in
theorem ctL_measure (l : Launch) (G : Gd) (hl9 : l.stackTraces = false) (o : OM) (v1 : Int32) (v2 : Int32) {k : Int32} {o9 : OM} (hf : F_L_measure o v1 v2 = some (k, o9)) : ∃ code, Ctw l yL_measure cL_measure 5 [(0, 10, 13, 21), (0, 10, 17, 15)] rmL_measure G [.ref (rA G 0 0), .int v1, .int v2, .ref (rA G 24 0)] o code k o9 := by
  obtain ⟨q, o1, h1, h2⟩ := bn_s hf
  obtain ⟨g2, h3⟩ := grd_s h2
  cases h3
  obtain ⟨code, v⟩ := q
  refine ⟨code, ctw_of (by decide) (Nat.le_of_ble_eq_true rfl) (fun p e s m below meth c ls C hT X P hl => ?_)⟩
  have C : Cx G RL cL_measure 5 (some .int) p s m _ meth c := C
  have hl : lv_has ls 5 [(0, .ref (rA G 0 0)), (1, .int v1), (2, .int v2), (3, .ref (rA G 24 0))] := hl
  have hle : mcx code ≤ 1 := by unfold mcx; split <;> omega
  refine r_aload_n C hl 3 rfl rfl dL_measure_0 ?_
  refine r_iconst C (v := 0) (by decide) dL_measure_1 ?_
  refine r_aload_n C hl 0 rfl rfl dL_measure_2 ?_
  refine r_iload_n C hl 1 rfl rfl dL_measure_3 ?_
  refine r_iload_n C hl 2 rfl rfl dL_measure_4 ?_
  refine w_call C X P cf_L_33 (rm := rmX5_measure) rfl [.int v1, .int v2] [.int 0, .ref (rA G 24 0)] (ctX5_measure l G hl9 o v1 v2 h1) ⟨Nat.le_of_ble_eq_true rfl, Nat.le_of_ble_eq_true rfl⟩ ⟨by show mcx code ≤ mcx code; omega, by show 6 * mcx code ≤ 6 * mcx code; omega⟩ rfl rfl hl.1 (Nat.le_of_ble_eq_true rfl) dL_measure_5 (fun H1 L1 P hc => ?_) (fun H1 L1 ce qa P hc hcell hvm hcl => ?_)
  · subst hc
    refine r_i2l C dL_measure_8 ?_
    refine w_last C P dL_measure_9 (fun H1 L1 P => ?_)
    refine r_goto C dL_measure_10 ?_
    refine r_iconst C (v := 0) (by decide) dL_measure_21 ?_
    exact w_iret C P ⟨rfl, rfl⟩ dL_measure_22
  · have hcs : code = 3 ∨ code = 2 := by
      simp only [okc, Bool.or_eq_true, decide_eq_true_eq] at g2
      rcases g2 with g2 | g2
      · exact absurd g2 hc
      · simpa using g2
    rcases hcs with rfl | rfl
    · refine vx_catch C.2.2.2.2.1 [] { startPc := 0, endPc := 10, handlerPc := 13, catchType := 21 } [{ startPc := 0, endPc := 10, handlerPc := 17, catchType := 15 }] hT (fun z hz => nomatch hz) (by decide) (by decide) (C.2.2.2.2.2.1 _ wd_675) (va_Nw.use rfl (X.1.2.2.1 (.castable "java/lang/IndexOutOfBoundsException" "java/lang/IndexOutOfBoundsException") (by decide))) hcell hvm hcl ?_
      refine r_astore C [(4, .ref qa), (0, .ref (rA G 0 0)), (1, .int v1), (2, .int v2), (3, .ref (rA G 24 0))] hl (by decide) rfl dL_measure_13 (fun ls hl => ?_)
      refine r_iconst C (v := 1) (by decide) dL_measure_15 ?_
      exact w_iret C P ⟨rfl, rfl⟩ dL_measure_16
    · refine vx_catch C.2.2.2.2.1 [{ startPc := 0, endPc := 10, handlerPc := 13, catchType := 21 }] { startPc := 0, endPc := 10, handlerPc := 17, catchType := 15 } [] hT (fun z hz => by
        simp only [List.mem_singleton] at hz
        subst hz
        exact Or.inr ⟨by decide, "java/lang/IndexOutOfBoundsException", C.2.2.2.2.2.1 _ wd_675, X.2 ("java/lang/IllegalStateException", "java/lang/IndexOutOfBoundsException") (by decide)⟩) (by decide) (by decide) (C.2.2.2.2.2.1 _ wd_632) (va_Nw.use rfl (X.1.2.2.1 (.castable "java/lang/IllegalStateException" "java/lang/IllegalStateException") (by decide))) hcell hvm hcl ?_
      refine r_astore C [(4, .ref qa), (0, .ref (rA G 0 0)), (1, .int v1), (2, .int v2), (3, .ref (rA G 24 0))] hl (by decide) rfl dL_measure_17 (fun ls hl => ?_)
      refine r_iconst C (v := 2) (by decide) dL_measure_19 ?_
      exact w_iret C P ⟨rfl, rfl⟩ dL_measure_20
theorem cf_L_36 : CallF false RL 36 yX5_forget cX5_forget 3 (some .int) 2 := ⟨wd_753, (by rw [if_neg (by decide)]; exact ⟨wd_754, wd_755⟩), wd_65, wd_756, by decide, by decide +kernel⟩
theorem dL_forget_0 : Dc cL_forget 0 (.aload_n 3) 1 1 := ⟨by decide +kernel, rfl⟩
theorem dL_forget_1 : Dc cL_forget 1 (.iconst 0) 1 2 := ⟨by decide +kernel, rfl⟩
theorem dL_forget_2 : Dc cL_forget 2 (.aload_n 0) 1 3 := ⟨by decide +kernel, rfl⟩
theorem dL_forget_3 : Dc cL_forget 3 (.iload_n 1) 1 4 := ⟨by decide +kernel, rfl⟩
theorem dL_forget_4 : Dc cL_forget 4 (.iload_n 2) 1 5 := ⟨by decide +kernel, rfl⟩
theorem dL_forget_5 : Dc cL_forget 5 (.invokevirtual 36) 3 8 := ⟨by decide +kernel, rfl⟩
theorem dL_forget_8 : Dc cL_forget 8 (.i2l) 1 9 := ⟨by decide +kernel, rfl⟩
theorem dL_forget_9 : Dc cL_forget 9 (.lastore) 1 10 := ⟨by decide +kernel, rfl⟩
theorem dL_forget_10 : Dj cL_forget 10 (.goto 11) 3 13 (11) 21 := ⟨by decide +kernel, rfl, by decide⟩
theorem dL_forget_13 : Dc cL_forget 13 (.astore 4) 2 15 := ⟨by decide +kernel, rfl⟩
theorem dL_forget_15 : Dc cL_forget 15 (.iconst 1) 1 16 := ⟨by decide +kernel, rfl⟩
theorem dL_forget_16 : Dc cL_forget 16 (.ireturn) 1 17 := ⟨by decide +kernel, rfl⟩
theorem dL_forget_17 : Dc cL_forget 17 (.astore 4) 2 19 := ⟨by decide +kernel, rfl⟩
theorem dL_forget_19 : Dc cL_forget 19 (.iconst 2) 1 20 := ⟨by decide +kernel, rfl⟩
theorem dL_forget_20 : Dc cL_forget 20 (.ireturn) 1 21 := ⟨by decide +kernel, rfl⟩
theorem dL_forget_21 : Dc cL_forget 21 (.iconst 0) 1 22 := ⟨by decide +kernel, rfl⟩
theorem dL_forget_22 : Dc cL_forget 22 (.ireturn) 1 23 := ⟨by decide +kernel, rfl⟩
def F_L_forget (o : OM) (v1 : Int32) (v2 : Int32) : Option (Int32 × OM) := bn (F_X5_forget o v1 v2) (fun q o1 => grd (okc [3, 1] q.1) (some (wk [3, 1] q.1, wo q o1)))
abbrev rmL_forget : Room := { frames := 8, cells := 0, slots := 0, locals := 147 }
set_option maxHeartbeats 4000000 in
set_option maxRecDepth 100000 in
theorem ctL_forget (l : Launch) (G : Gd) (hl9 : l.stackTraces = false) (o : OM) (v1 : Int32) (v2 : Int32) {k : Int32} {o9 : OM} (hf : F_L_forget o v1 v2 = some (k, o9)) : ∃ code, Ctw l yL_forget cL_forget 5 [(0, 10, 13, 21), (0, 10, 17, 13)] rmL_forget G [.ref (rA G 0 0), .int v1, .int v2, .ref (rA G 24 0)] o code k o9 := by
  obtain ⟨q, o1, h1, h2⟩ := bn_s hf
  obtain ⟨g2, h3⟩ := grd_s h2
  cases h3
  obtain ⟨code, v⟩ := q
  refine ⟨code, ctw_of (by decide) (Nat.le_of_ble_eq_true rfl) (fun p e s m below meth c ls C hT X P hl => ?_)⟩
  have C : Cx G RL cL_forget 5 (some .int) p s m _ meth c := C
  have hl : lv_has ls 5 [(0, .ref (rA G 0 0)), (1, .int v1), (2, .int v2), (3, .ref (rA G 24 0))] := hl
  have hle : mcx code ≤ 1 := by unfold mcx; split <;> omega
  refine r_aload_n C hl 3 rfl rfl dL_forget_0 ?_
  refine r_iconst C (v := 0) (by decide) dL_forget_1 ?_
  refine r_aload_n C hl 0 rfl rfl dL_forget_2 ?_
  refine r_iload_n C hl 1 rfl rfl dL_forget_3 ?_
  refine r_iload_n C hl 2 rfl rfl dL_forget_4 ?_
  refine w_call C X P cf_L_36 (rm := rmX5_forget) rfl [.int v1, .int v2] [.int 0, .ref (rA G 24 0)] (ctX5_forget l G hl9 o v1 v2 h1) ⟨Nat.le_of_ble_eq_true rfl, Nat.le_of_ble_eq_true rfl⟩ ⟨by show mcx code ≤ mcx code; omega, by show 6 * mcx code ≤ 6 * mcx code; omega⟩ rfl rfl hl.1 (Nat.le_of_ble_eq_true rfl) dL_forget_5 (fun H1 L1 P hc => ?_) (fun H1 L1 ce qa P hc hcell hvm hcl => ?_)
  · subst hc
    refine r_i2l C dL_forget_8 ?_
    refine w_last C P dL_forget_9 (fun H1 L1 P => ?_)
    refine r_goto C dL_forget_10 ?_
    refine r_iconst C (v := 0) (by decide) dL_forget_21 ?_
    exact w_iret C P ⟨rfl, rfl⟩ dL_forget_22
  · have hcs : code = 3 ∨ code = 1 := by
      simp only [okc, Bool.or_eq_true, decide_eq_true_eq] at g2
      rcases g2 with g2 | g2
      · exact absurd g2 hc
      · simpa using g2
    rcases hcs with rfl | rfl
    · refine vx_catch C.2.2.2.2.1 [] { startPc := 0, endPc := 10, handlerPc := 13, catchType := 21 } [{ startPc := 0, endPc := 10, handlerPc := 17, catchType := 13 }] hT (fun z hz => nomatch hz) (by decide) (by decide) (C.2.2.2.2.2.1 _ wd_675) (va_Nw.use rfl (X.1.2.2.1 (.castable "java/lang/IndexOutOfBoundsException" "java/lang/IndexOutOfBoundsException") (by decide))) hcell hvm hcl ?_
      refine r_astore C [(4, .ref qa), (0, .ref (rA G 0 0)), (1, .int v1), (2, .int v2), (3, .ref (rA G 24 0))] hl (by decide) rfl dL_forget_13 (fun ls hl => ?_)
      refine r_iconst C (v := 1) (by decide) dL_forget_15 ?_
      exact w_iret C P ⟨rfl, rfl⟩ dL_forget_16
    · refine vx_catch C.2.2.2.2.1 [{ startPc := 0, endPc := 10, handlerPc := 13, catchType := 21 }] { startPc := 0, endPc := 10, handlerPc := 17, catchType := 13 } [] hT (fun z hz => by
        simp only [List.mem_singleton] at hz
        subst hz
        exact Or.inr ⟨by decide, "java/lang/IndexOutOfBoundsException", C.2.2.2.2.2.1 _ wd_675, X.2 ("java/lang/IllegalArgumentException", "java/lang/IndexOutOfBoundsException") (by decide)⟩) (by decide) (by decide) (C.2.2.2.2.2.1 _ wd_631) (va_Nw.use rfl (X.1.2.2.1 (.castable "java/lang/IllegalArgumentException" "java/lang/IllegalArgumentException") (by decide))) hcell hvm hcl ?_
      refine r_astore C [(4, .ref qa), (0, .ref (rA G 0 0)), (1, .int v1), (2, .int v2), (3, .ref (rA G 24 0))] hl (by decide) rfl dL_forget_17 (fun ls hl => ?_)
      refine r_iconst C (v := 2) (by decide) dL_forget_19 ?_
      exact w_iret C P ⟨rfl, rfl⟩ dL_forget_20
theorem cf_L_39 : CallF false RL 39 yX5_paper cX5_paper 3 (some .int) 1 := ⟨wd_761, (by rw [if_neg (by decide)]; exact ⟨wd_762, wd_763⟩), wd_65, wd_764, by decide, by decide +kernel⟩
theorem dL_paper_0 : Dc cL_paper 0 (.aload_n 2) 1 1 := ⟨by decide +kernel, rfl⟩
theorem dL_paper_1 : Dc cL_paper 1 (.iconst 0) 1 2 := ⟨by decide +kernel, rfl⟩
theorem dL_paper_2 : Dc cL_paper 2 (.aload_n 0) 1 3 := ⟨by decide +kernel, rfl⟩
theorem dL_paper_3 : Dc cL_paper 3 (.iload_n 1) 1 4 := ⟨by decide +kernel, rfl⟩
theorem dL_paper_4 : Dc cL_paper 4 (.invokevirtual 39) 3 7 := ⟨by decide +kernel, rfl⟩
theorem dL_paper_7 : Dc cL_paper 7 (.i2l) 1 8 := ⟨by decide +kernel, rfl⟩
theorem dL_paper_8 : Dc cL_paper 8 (.lastore) 1 9 := ⟨by decide +kernel, rfl⟩
theorem dL_paper_9 : Dj cL_paper 9 (.goto 9) 3 12 (9) 18 := ⟨by decide +kernel, rfl, by decide⟩
theorem dL_paper_12 : Dc cL_paper 12 (.astore_n 3) 1 13 := ⟨by decide +kernel, rfl⟩
theorem dL_paper_13 : Dc cL_paper 13 (.iconst 1) 1 14 := ⟨by decide +kernel, rfl⟩
theorem dL_paper_14 : Dc cL_paper 14 (.ireturn) 1 15 := ⟨by decide +kernel, rfl⟩
theorem dL_paper_15 : Dc cL_paper 15 (.astore_n 3) 1 16 := ⟨by decide +kernel, rfl⟩
theorem dL_paper_16 : Dc cL_paper 16 (.iconst 2) 1 17 := ⟨by decide +kernel, rfl⟩
theorem dL_paper_17 : Dc cL_paper 17 (.ireturn) 1 18 := ⟨by decide +kernel, rfl⟩
theorem dL_paper_18 : Dc cL_paper 18 (.iconst 0) 1 19 := ⟨by decide +kernel, rfl⟩
theorem dL_paper_19 : Dc cL_paper 19 (.ireturn) 1 20 := ⟨by decide +kernel, rfl⟩
def F_L_paper (o : OM) (v1 : Int32) : Option (Int32 × OM) := bn (F_X5_paper o v1) (fun q o1 => grd (okc [3, 2] q.1) (some (wk [3, 2] q.1, wo q o1)))
abbrev rmL_paper : Room := { frames := 8, cells := 0, slots := 0, locals := 147 }
set_option maxHeartbeats 4000000 in
set_option maxRecDepth 100000 in
theorem ctL_paper (l : Launch) (G : Gd) (hl9 : l.stackTraces = false) (o : OM) (v1 : Int32) {k : Int32} {o9 : OM} (hf : F_L_paper o v1 = some (k, o9)) : ∃ code, Ctw l yL_paper cL_paper 4 [(0, 9, 12, 21), (0, 9, 15, 15)] rmL_paper G [.ref (rA G 0 0), .int v1, .ref (rA G 24 0)] o code k o9 := by
  obtain ⟨q, o1, h1, h2⟩ := bn_s hf
  obtain ⟨g2, h3⟩ := grd_s h2
  cases h3
  obtain ⟨code, v⟩ := q
  refine ⟨code, ctw_of (by decide) (Nat.le_of_ble_eq_true rfl) (fun p e s m below meth c ls C hT X P hl => ?_)⟩
  have C : Cx G RL cL_paper 4 (some .int) p s m _ meth c := C
  have hl : lv_has ls 4 [(0, .ref (rA G 0 0)), (1, .int v1), (2, .ref (rA G 24 0))] := hl
  have hle : mcx code ≤ 1 := by unfold mcx; split <;> omega
  refine r_aload_n C hl 2 rfl rfl dL_paper_0 ?_
  refine r_iconst C (v := 0) (by decide) dL_paper_1 ?_
  refine r_aload_n C hl 0 rfl rfl dL_paper_2 ?_
  refine r_iload_n C hl 1 rfl rfl dL_paper_3 ?_
  refine w_call C X P cf_L_39 (rm := rmX5_paper) rfl [.int v1] [.int 0, .ref (rA G 24 0)] (ctX5_paper l G hl9 o v1 h1) ⟨Nat.le_of_ble_eq_true rfl, Nat.le_of_ble_eq_true rfl⟩ ⟨by show mcx code ≤ mcx code; omega, by show 6 * mcx code ≤ 6 * mcx code; omega⟩ rfl rfl hl.1 (Nat.le_of_ble_eq_true rfl) dL_paper_4 (fun H1 L1 P hc => ?_) (fun H1 L1 ce qa P hc hcell hvm hcl => ?_)
  · subst hc
    refine r_i2l C dL_paper_7 ?_
    refine w_last C P dL_paper_8 (fun H1 L1 P => ?_)
    refine r_goto C dL_paper_9 ?_
    refine r_iconst C (v := 0) (by decide) dL_paper_18 ?_
    exact w_iret C P ⟨rfl, rfl⟩ dL_paper_19
  · have hcs : code = 3 ∨ code = 2 := by
      simp only [okc, Bool.or_eq_true, decide_eq_true_eq] at g2
      rcases g2 with g2 | g2
      · exact absurd g2 hc
      · simpa using g2
    rcases hcs with rfl | rfl
    · refine vx_catch C.2.2.2.2.1 [] { startPc := 0, endPc := 9, handlerPc := 12, catchType := 21 } [{ startPc := 0, endPc := 9, handlerPc := 15, catchType := 15 }] hT (fun z hz => nomatch hz) (by decide) (by decide) (C.2.2.2.2.2.1 _ wd_675) (va_Nw.use rfl (X.1.2.2.1 (.castable "java/lang/IndexOutOfBoundsException" "java/lang/IndexOutOfBoundsException") (by decide))) hcell hvm hcl ?_
      refine r_astore_n C [(3, .ref qa), (0, .ref (rA G 0 0)), (1, .int v1), (2, .ref (rA G 24 0))] hl (by decide) rfl rfl dL_paper_12 (fun ls hl => ?_)
      refine r_iconst C (v := 1) (by decide) dL_paper_13 ?_
      exact w_iret C P ⟨rfl, rfl⟩ dL_paper_14
    · refine vx_catch C.2.2.2.2.1 [{ startPc := 0, endPc := 9, handlerPc := 12, catchType := 21 }] { startPc := 0, endPc := 9, handlerPc := 15, catchType := 15 } [] hT (fun z hz => by
        simp only [List.mem_singleton] at hz
        subst hz
        exact Or.inr ⟨by decide, "java/lang/IndexOutOfBoundsException", C.2.2.2.2.2.1 _ wd_675, X.2 ("java/lang/IllegalStateException", "java/lang/IndexOutOfBoundsException") (by decide)⟩) (by decide) (by decide) (C.2.2.2.2.2.1 _ wd_632) (va_Nw.use rfl (X.1.2.2.1 (.castable "java/lang/IllegalStateException" "java/lang/IllegalStateException") (by decide))) hcell hvm hcl ?_
      refine r_astore_n C [(3, .ref qa), (0, .ref (rA G 0 0)), (1, .int v1), (2, .ref (rA G 24 0))] hl (by decide) rfl rfl dL_paper_15 (fun ls hl => ?_)
      refine r_iconst C (v := 2) (by decide) dL_paper_16 ?_
      exact w_iret C P ⟨rfl, rfl⟩ dL_paper_17
theorem cf_L_42 : CallF false RL 42 yX5_append cX5_append 2 (some .int) 1 := ⟨wd_773, (by rw [if_neg (by decide)]; exact ⟨wd_774, wd_775⟩), wd_65, wd_776, by decide, by decide +kernel⟩
theorem dL_append_0 : Dc cL_append 0 (.aload_n 2) 1 1 := ⟨by decide +kernel, rfl⟩
theorem dL_append_1 : Dc cL_append 1 (.iconst 0) 1 2 := ⟨by decide +kernel, rfl⟩
theorem dL_append_2 : Dc cL_append 2 (.aload_n 0) 1 3 := ⟨by decide +kernel, rfl⟩
theorem dL_append_3 : Dc cL_append 3 (.iload_n 1) 1 4 := ⟨by decide +kernel, rfl⟩
theorem dL_append_4 : Dc cL_append 4 (.invokevirtual 42) 3 7 := ⟨by decide +kernel, rfl⟩
theorem dL_append_7 : Dc cL_append 7 (.i2l) 1 8 := ⟨by decide +kernel, rfl⟩
theorem dL_append_8 : Dc cL_append 8 (.lastore) 1 9 := ⟨by decide +kernel, rfl⟩
theorem dL_append_9 : Dj cL_append 9 (.goto 9) 3 12 (9) 18 := ⟨by decide +kernel, rfl, by decide⟩
theorem dL_append_12 : Dc cL_append 12 (.astore_n 3) 1 13 := ⟨by decide +kernel, rfl⟩
theorem dL_append_13 : Dc cL_append 13 (.iconst 1) 1 14 := ⟨by decide +kernel, rfl⟩
theorem dL_append_14 : Dc cL_append 14 (.ireturn) 1 15 := ⟨by decide +kernel, rfl⟩
theorem dL_append_15 : Dc cL_append 15 (.astore_n 3) 1 16 := ⟨by decide +kernel, rfl⟩
theorem dL_append_16 : Dc cL_append 16 (.iconst 2) 1 17 := ⟨by decide +kernel, rfl⟩
theorem dL_append_17 : Dc cL_append 17 (.ireturn) 1 18 := ⟨by decide +kernel, rfl⟩
theorem dL_append_18 : Dc cL_append 18 (.iconst 0) 1 19 := ⟨by decide +kernel, rfl⟩
theorem dL_append_19 : Dc cL_append 19 (.ireturn) 1 20 := ⟨by decide +kernel, rfl⟩
def F_L_append (o : OM) (v1 : Int32) : Option (Int32 × OM) := bn (F_X5_append o v1) (fun q o1 => grd (okc [1, 2] q.1) (some (wk [1, 2] q.1, wo q o1)))
abbrev rmL_append : Room := { frames := 7, cells := 0, slots := 0, locals := 103 }
set_option maxHeartbeats 4000000 in
set_option maxRecDepth 100000 in
theorem ctL_append (l : Launch) (G : Gd) (hl9 : l.stackTraces = false) (o : OM) (v1 : Int32) {k : Int32} {o9 : OM} (hf : F_L_append o v1 = some (k, o9)) : ∃ code, Ctw l yL_append cL_append 4 [(0, 9, 12, 13), (0, 9, 15, 15)] rmL_append G [.ref (rA G 0 0), .int v1, .ref (rA G 24 0)] o code k o9 := by
  obtain ⟨q, o1, h1, h2⟩ := bn_s hf
  obtain ⟨g2, h3⟩ := grd_s h2
  cases h3
  obtain ⟨code, v⟩ := q
  refine ⟨code, ctw_of (by decide) (Nat.le_of_ble_eq_true rfl) (fun p e s m below meth c ls C hT X P hl => ?_)⟩
  have C : Cx G RL cL_append 4 (some .int) p s m _ meth c := C
  have hl : lv_has ls 4 [(0, .ref (rA G 0 0)), (1, .int v1), (2, .ref (rA G 24 0))] := hl
  have hle : mcx code ≤ 1 := by unfold mcx; split <;> omega
  refine r_aload_n C hl 2 rfl rfl dL_append_0 ?_
  refine r_iconst C (v := 0) (by decide) dL_append_1 ?_
  refine r_aload_n C hl 0 rfl rfl dL_append_2 ?_
  refine r_iload_n C hl 1 rfl rfl dL_append_3 ?_
  refine w_call C X P cf_L_42 (rm := rmX5_append) rfl [.int v1] [.int 0, .ref (rA G 24 0)] (ctX5_append l G hl9 o v1 h1) ⟨Nat.le_of_ble_eq_true rfl, Nat.le_of_ble_eq_true rfl⟩ ⟨by show mcx code ≤ mcx code; omega, by show 6 * mcx code ≤ 6 * mcx code; omega⟩ rfl rfl hl.1 (Nat.le_of_ble_eq_true rfl) dL_append_4 (fun H1 L1 P hc => ?_) (fun H1 L1 ce qa P hc hcell hvm hcl => ?_)
  · subst hc
    refine r_i2l C dL_append_7 ?_
    refine w_last C P dL_append_8 (fun H1 L1 P => ?_)
    refine r_goto C dL_append_9 ?_
    refine r_iconst C (v := 0) (by decide) dL_append_18 ?_
    exact w_iret C P ⟨rfl, rfl⟩ dL_append_19
  · have hcs : code = 1 ∨ code = 2 := by
      simp only [okc, Bool.or_eq_true, decide_eq_true_eq] at g2
      rcases g2 with g2 | g2
      · exact absurd g2 hc
      · simpa using g2
    rcases hcs with rfl | rfl
    · refine vx_catch C.2.2.2.2.1 [] { startPc := 0, endPc := 9, handlerPc := 12, catchType := 13 } [{ startPc := 0, endPc := 9, handlerPc := 15, catchType := 15 }] hT (fun z hz => nomatch hz) (by decide) (by decide) (C.2.2.2.2.2.1 _ wd_631) (va_Nw.use rfl (X.1.2.2.1 (.castable "java/lang/IllegalArgumentException" "java/lang/IllegalArgumentException") (by decide))) hcell hvm hcl ?_
      refine r_astore_n C [(3, .ref qa), (0, .ref (rA G 0 0)), (1, .int v1), (2, .ref (rA G 24 0))] hl (by decide) rfl rfl dL_append_12 (fun ls hl => ?_)
      refine r_iconst C (v := 1) (by decide) dL_append_13 ?_
      exact w_iret C P ⟨rfl, rfl⟩ dL_append_14
    · refine vx_catch C.2.2.2.2.1 [{ startPc := 0, endPc := 9, handlerPc := 12, catchType := 13 }] { startPc := 0, endPc := 9, handlerPc := 15, catchType := 15 } [] hT (fun z hz => by
        simp only [List.mem_singleton] at hz
        subst hz
        exact Or.inr ⟨by decide, "java/lang/IllegalArgumentException", C.2.2.2.2.2.1 _ wd_631, X.2 ("java/lang/IllegalStateException", "java/lang/IllegalArgumentException") (by decide)⟩) (by decide) (by decide) (C.2.2.2.2.2.1 _ wd_632) (va_Nw.use rfl (X.1.2.2.1 (.castable "java/lang/IllegalStateException" "java/lang/IllegalStateException") (by decide))) hcell hvm hcl ?_
      refine r_astore_n C [(3, .ref qa), (0, .ref (rA G 0 0)), (1, .int v1), (2, .ref (rA G 24 0))] hl (by decide) rfl rfl dL_append_15 (fun ls hl => ?_)
      refine r_iconst C (v := 2) (by decide) dL_append_16 ?_
      exact w_iret C P ⟨rfl, rfl⟩ dL_append_17
theorem cf_L_45 : CallF false RL 45 yX5_work cX5_work 3 (some .int) 0 := ⟨wd_786, (by rw [if_neg (by decide)]; exact ⟨wd_787, wd_788⟩), wd_65, wd_789, by decide, by decide +kernel⟩
theorem dL_work_0 : Dc cL_work 0 (.aload_n 1) 1 1 := ⟨by decide +kernel, rfl⟩
theorem dL_work_1 : Dc cL_work 1 (.iconst 0) 1 2 := ⟨by decide +kernel, rfl⟩
theorem dL_work_2 : Dc cL_work 2 (.aload_n 0) 1 3 := ⟨by decide +kernel, rfl⟩
theorem dL_work_3 : Dc cL_work 3 (.invokevirtual 45) 3 6 := ⟨by decide +kernel, rfl⟩
theorem dL_work_6 : Dc cL_work 6 (.i2l) 1 7 := ⟨by decide +kernel, rfl⟩
theorem dL_work_7 : Dc cL_work 7 (.lastore) 1 8 := ⟨by decide +kernel, rfl⟩
theorem dL_work_8 : Dj cL_work 8 (.goto 6) 3 11 (6) 14 := ⟨by decide +kernel, rfl, by decide⟩
theorem dL_work_11 : Dc cL_work 11 (.astore_n 2) 1 12 := ⟨by decide +kernel, rfl⟩
theorem dL_work_12 : Dc cL_work 12 (.iconst 1) 1 13 := ⟨by decide +kernel, rfl⟩
theorem dL_work_13 : Dc cL_work 13 (.ireturn) 1 14 := ⟨by decide +kernel, rfl⟩
theorem dL_work_14 : Dc cL_work 14 (.iconst 0) 1 15 := ⟨by decide +kernel, rfl⟩
theorem dL_work_15 : Dc cL_work 15 (.ireturn) 1 16 := ⟨by decide +kernel, rfl⟩
def F_L_work (o : OM) : Option (Int32 × OM) := bn (F_X5_work o ) (fun q o1 => grd (okc [1] q.1) (some (wk [1] q.1, wo q o1)))
abbrev rmL_work : Room := { frames := 8, cells := 0, slots := 0, locals := 186 }
set_option maxHeartbeats 4000000 in
set_option maxRecDepth 100000 in
theorem ctL_work (l : Launch) (G : Gd) (hl9 : l.stackTraces = false) (o : OM)  {k : Int32} {o9 : OM} (hf : F_L_work o  = some (k, o9)) : ∃ code, Ctw l yL_work cL_work 3 [(0, 8, 11, 13)] rmL_work G [.ref (rA G 0 0), .ref (rA G 24 0)] o code k o9 := by
  obtain ⟨q, o1, h1, h2⟩ := bn_s hf
  obtain ⟨g2, h3⟩ := grd_s h2
  cases h3
  obtain ⟨code, v⟩ := q
  refine ⟨code, ctw_of (by decide) (Nat.le_of_ble_eq_true rfl) (fun p e s m below meth c ls C hT X P hl => ?_)⟩
  have C : Cx G RL cL_work 3 (some .int) p s m _ meth c := C
  have hl : lv_has ls 3 [(0, .ref (rA G 0 0)), (1, .ref (rA G 24 0))] := hl
  have hle : mcx code ≤ 1 := by unfold mcx; split <;> omega
  refine r_aload_n C hl 1 rfl rfl dL_work_0 ?_
  refine r_iconst C (v := 0) (by decide) dL_work_1 ?_
  refine r_aload_n C hl 0 rfl rfl dL_work_2 ?_
  refine w_call C X P cf_L_45 (rm := rmX5_work) rfl [] [.int 0, .ref (rA G 24 0)] (ctX5_work l G hl9 o  h1) ⟨Nat.le_of_ble_eq_true rfl, Nat.le_of_ble_eq_true rfl⟩ ⟨by show mcx code ≤ mcx code; omega, by show 6 * mcx code ≤ 6 * mcx code; omega⟩ rfl rfl hl.1 (Nat.le_of_ble_eq_true rfl) dL_work_3 (fun H1 L1 P hc => ?_) (fun H1 L1 ce qa P hc hcell hvm hcl => ?_)
  · subst hc
    refine r_i2l C dL_work_6 ?_
    refine w_last C P dL_work_7 (fun H1 L1 P => ?_)
    refine r_goto C dL_work_8 ?_
    refine r_iconst C (v := 0) (by decide) dL_work_14 ?_
    exact w_iret C P ⟨rfl, rfl⟩ dL_work_15
  · have hcs : code = 1 := by
      simp only [okc, Bool.or_eq_true, decide_eq_true_eq] at g2
      rcases g2 with g2 | g2
      · exact absurd g2 hc
      · simpa using g2
    rcases hcs with rfl
    · refine vx_catch C.2.2.2.2.1 [] { startPc := 0, endPc := 8, handlerPc := 11, catchType := 13 } [] hT (fun z hz => nomatch hz) (by decide) (by decide) (C.2.2.2.2.2.1 _ wd_631) (va_Nw.use rfl (X.1.2.2.1 (.castable "java/lang/IllegalArgumentException" "java/lang/IllegalArgumentException") (by decide))) hcell hvm hcl ?_
      refine r_astore_n C [(2, .ref qa), (0, .ref (rA G 0 0)), (1, .ref (rA G 24 0))] hl (by decide) rfl rfl dL_work_11 (fun ls hl => ?_)
      refine r_iconst C (v := 1) (by decide) dL_work_12 ?_
      exact w_iret C P ⟨rfl, rfl⟩ dL_work_13
theorem cf_L_49 : CallF false RL 49 yX5_stopped cX5_stopped 2 (some .int) 1 := ⟨wd_816, (by rw [if_neg (by decide)]; exact ⟨wd_617, wd_618⟩), wd_65, wd_619, by decide, by decide +kernel⟩
theorem dL_stopped_0 : Dc cL_stopped 0 (.aload_n 2) 1 1 := ⟨by decide +kernel, rfl⟩
theorem dL_stopped_1 : Dc cL_stopped 1 (.iconst 0) 1 2 := ⟨by decide +kernel, rfl⟩
theorem dL_stopped_2 : Dc cL_stopped 2 (.aload_n 0) 1 3 := ⟨by decide +kernel, rfl⟩
theorem dL_stopped_3 : Dc cL_stopped 3 (.iload_n 1) 1 4 := ⟨by decide +kernel, rfl⟩
theorem dL_stopped_4 : Dc cL_stopped 4 (.invokevirtual 49) 3 7 := ⟨by decide +kernel, rfl⟩
theorem dL_stopped_7 : Dc cL_stopped 7 (.i2l) 1 8 := ⟨by decide +kernel, rfl⟩
theorem dL_stopped_8 : Dc cL_stopped 8 (.lastore) 1 9 := ⟨by decide +kernel, rfl⟩
theorem dL_stopped_9 : Dj cL_stopped 9 (.goto 6) 3 12 (6) 15 := ⟨by decide +kernel, rfl, by decide⟩
theorem dL_stopped_12 : Dc cL_stopped 12 (.astore_n 3) 1 13 := ⟨by decide +kernel, rfl⟩
theorem dL_stopped_13 : Dc cL_stopped 13 (.iconst 1) 1 14 := ⟨by decide +kernel, rfl⟩
theorem dL_stopped_14 : Dc cL_stopped 14 (.ireturn) 1 15 := ⟨by decide +kernel, rfl⟩
theorem dL_stopped_15 : Dc cL_stopped 15 (.iconst 0) 1 16 := ⟨by decide +kernel, rfl⟩
theorem dL_stopped_16 : Dc cL_stopped 16 (.ireturn) 1 17 := ⟨by decide +kernel, rfl⟩
def F_L_stopped (o : OM) (v1 : Int32) : Option (Int32 × OM) := bn (F_X5_stopped o v1) (fun q o1 => grd (okc [1] q.1) (some (wk [1] q.1, wo q o1)))
abbrev rmL_stopped : Room := { frames := 7, cells := 0, slots := 0, locals := 103 }
set_option maxHeartbeats 4000000 in
set_option maxRecDepth 100000 in
theorem ctL_stopped (l : Launch) (G : Gd) (hl9 : l.stackTraces = false) (o : OM) (v1 : Int32) {k : Int32} {o9 : OM} (hf : F_L_stopped o v1 = some (k, o9)) : ∃ code, Ctw l yL_stopped cL_stopped 4 [(0, 9, 12, 13)] rmL_stopped G [.ref (rA G 0 0), .int v1, .ref (rA G 24 0)] o code k o9 := by
  obtain ⟨q, o1, h1, h2⟩ := bn_s hf
  obtain ⟨g2, h3⟩ := grd_s h2
  cases h3
  obtain ⟨code, v⟩ := q
  refine ⟨code, ctw_of (by decide) (Nat.le_of_ble_eq_true rfl) (fun p e s m below meth c ls C hT X P hl => ?_)⟩
  have C : Cx G RL cL_stopped 4 (some .int) p s m _ meth c := C
  have hl : lv_has ls 4 [(0, .ref (rA G 0 0)), (1, .int v1), (2, .ref (rA G 24 0))] := hl
  have hle : mcx code ≤ 1 := by unfold mcx; split <;> omega
  refine r_aload_n C hl 2 rfl rfl dL_stopped_0 ?_
  refine r_iconst C (v := 0) (by decide) dL_stopped_1 ?_
  refine r_aload_n C hl 0 rfl rfl dL_stopped_2 ?_
  refine r_iload_n C hl 1 rfl rfl dL_stopped_3 ?_
  refine w_call C X P cf_L_49 (rm := rmX5_stopped) rfl [.int v1] [.int 0, .ref (rA G 24 0)] (ctX5_stopped l G hl9 o v1 h1) ⟨Nat.le_of_ble_eq_true rfl, Nat.le_of_ble_eq_true rfl⟩ ⟨by show mcx code ≤ mcx code; omega, by show 6 * mcx code ≤ 6 * mcx code; omega⟩ rfl rfl hl.1 (Nat.le_of_ble_eq_true rfl) dL_stopped_4 (fun H1 L1 P hc => ?_) (fun H1 L1 ce qa P hc hcell hvm hcl => ?_)
  · subst hc
    refine r_i2l C dL_stopped_7 ?_
    refine w_last C P dL_stopped_8 (fun H1 L1 P => ?_)
    refine r_goto C dL_stopped_9 ?_
    refine r_iconst C (v := 0) (by decide) dL_stopped_15 ?_
    exact w_iret C P ⟨rfl, rfl⟩ dL_stopped_16
  · have hcs : code = 1 := by
      simp only [okc, Bool.or_eq_true, decide_eq_true_eq] at g2
      rcases g2 with g2 | g2
      · exact absurd g2 hc
      · simpa using g2
    rcases hcs with rfl
    · refine vx_catch C.2.2.2.2.1 [] { startPc := 0, endPc := 9, handlerPc := 12, catchType := 13 } [] hT (fun z hz => nomatch hz) (by decide) (by decide) (C.2.2.2.2.2.1 _ wd_631) (va_Nw.use rfl (X.1.2.2.1 (.castable "java/lang/IllegalArgumentException" "java/lang/IllegalArgumentException") (by decide))) hcell hvm hcl ?_
      refine r_astore_n C [(3, .ref qa), (0, .ref (rA G 0 0)), (1, .int v1), (2, .ref (rA G 24 0))] hl (by decide) rfl rfl dL_stopped_12 (fun ls hl => ?_)
      refine r_iconst C (v := 1) (by decide) dL_stopped_13 ?_
      exact w_iret C P ⟨rfl, rfl⟩ dL_stopped_14
theorem cf_L_52 : CallF false RL 52 yX5_undo cX5_undo 1 (some .int) 0 := ⟨wd_820, (by rw [if_neg (by decide)]; exact ⟨wd_821, wd_822⟩), wd_65, wd_823, by decide, by decide +kernel⟩
theorem dL_undo_0 : Dc cL_undo 0 (.aload_n 1) 1 1 := ⟨by decide +kernel, rfl⟩
theorem dL_undo_1 : Dc cL_undo 1 (.iconst 0) 1 2 := ⟨by decide +kernel, rfl⟩
theorem dL_undo_2 : Dc cL_undo 2 (.aload_n 0) 1 3 := ⟨by decide +kernel, rfl⟩
theorem dL_undo_3 : Dc cL_undo 3 (.invokevirtual 52) 3 6 := ⟨by decide +kernel, rfl⟩
theorem dL_undo_6 : Dc cL_undo 6 (.i2l) 1 7 := ⟨by decide +kernel, rfl⟩
theorem dL_undo_7 : Dc cL_undo 7 (.lastore) 1 8 := ⟨by decide +kernel, rfl⟩
theorem dL_undo_8 : Dj cL_undo 8 (.goto 6) 3 11 (6) 14 := ⟨by decide +kernel, rfl, by decide⟩
theorem dL_undo_11 : Dc cL_undo 11 (.astore_n 2) 1 12 := ⟨by decide +kernel, rfl⟩
theorem dL_undo_12 : Dc cL_undo 12 (.iconst 1) 1 13 := ⟨by decide +kernel, rfl⟩
theorem dL_undo_13 : Dc cL_undo 13 (.ireturn) 1 14 := ⟨by decide +kernel, rfl⟩
theorem dL_undo_14 : Dc cL_undo 14 (.iconst 0) 1 15 := ⟨by decide +kernel, rfl⟩
theorem dL_undo_15 : Dc cL_undo 15 (.ireturn) 1 16 := ⟨by decide +kernel, rfl⟩
def F_L_undo (o : OM) : Option (Int32 × OM) := bn (F_X5_undo o ) (fun q o1 => grd (okc [2] q.1) (some (wk [2] q.1, wo q o1)))
abbrev rmL_undo : Room := { frames := 7, cells := 0, slots := 0, locals := 145 }
set_option maxHeartbeats 4000000 in
set_option maxRecDepth 100000 in
theorem ctL_undo (l : Launch) (G : Gd) (hl9 : l.stackTraces = false) (o : OM)  {k : Int32} {o9 : OM} (hf : F_L_undo o  = some (k, o9)) : ∃ code, Ctw l yL_undo cL_undo 3 [(0, 8, 11, 15)] rmL_undo G [.ref (rA G 0 0), .ref (rA G 24 0)] o code k o9 := by
  obtain ⟨q, o1, h1, h2⟩ := bn_s hf
  obtain ⟨g2, h3⟩ := grd_s h2
  cases h3
  obtain ⟨code, v⟩ := q
  refine ⟨code, ctw_of (by decide) (Nat.le_of_ble_eq_true rfl) (fun p e s m below meth c ls C hT X P hl => ?_)⟩
  have C : Cx G RL cL_undo 3 (some .int) p s m _ meth c := C
  have hl : lv_has ls 3 [(0, .ref (rA G 0 0)), (1, .ref (rA G 24 0))] := hl
  have hle : mcx code ≤ 1 := by unfold mcx; split <;> omega
  refine r_aload_n C hl 1 rfl rfl dL_undo_0 ?_
  refine r_iconst C (v := 0) (by decide) dL_undo_1 ?_
  refine r_aload_n C hl 0 rfl rfl dL_undo_2 ?_
  refine w_call C X P cf_L_52 (rm := rmX5_undo) rfl [] [.int 0, .ref (rA G 24 0)] (ctX5_undo l G hl9 o  h1) ⟨Nat.le_of_ble_eq_true rfl, Nat.le_of_ble_eq_true rfl⟩ ⟨by show mcx code ≤ mcx code; omega, by show 6 * mcx code ≤ 6 * mcx code; omega⟩ rfl rfl hl.1 (Nat.le_of_ble_eq_true rfl) dL_undo_3 (fun H1 L1 P hc => ?_) (fun H1 L1 ce qa P hc hcell hvm hcl => ?_)
  · subst hc
    refine r_i2l C dL_undo_6 ?_
    refine w_last C P dL_undo_7 (fun H1 L1 P => ?_)
    refine r_goto C dL_undo_8 ?_
    refine r_iconst C (v := 0) (by decide) dL_undo_14 ?_
    exact w_iret C P ⟨rfl, rfl⟩ dL_undo_15
  · have hcs : code = 2 := by
      simp only [okc, Bool.or_eq_true, decide_eq_true_eq] at g2
      rcases g2 with g2 | g2
      · exact absurd g2 hc
      · simpa using g2
    rcases hcs with rfl
    · refine vx_catch C.2.2.2.2.1 [] { startPc := 0, endPc := 8, handlerPc := 11, catchType := 15 } [] hT (fun z hz => nomatch hz) (by decide) (by decide) (C.2.2.2.2.2.1 _ wd_632) (va_Nw.use rfl (X.1.2.2.1 (.castable "java/lang/IllegalStateException" "java/lang/IllegalStateException") (by decide))) hcell hvm hcl ?_
      refine r_astore_n C [(2, .ref qa), (0, .ref (rA G 0 0)), (1, .ref (rA G 24 0))] hl (by decide) rfl rfl dL_undo_11 (fun ls hl => ?_)
      refine r_iconst C (v := 1) (by decide) dL_undo_12 ?_
      exact w_iret C P ⟨rfl, rfl⟩ dL_undo_13
theorem cf_L_55 : CallF false RL 55 yX5_restore cX5_restore 1 (some .int) 0 := ⟨wd_832, (by rw [if_neg (by decide)]; exact ⟨wd_833, wd_834⟩), wd_65, wd_835, by decide, by decide +kernel⟩
theorem dL_restore_0 : Dc cL_restore 0 (.aload_n 1) 1 1 := ⟨by decide +kernel, rfl⟩
theorem dL_restore_1 : Dc cL_restore 1 (.iconst 0) 1 2 := ⟨by decide +kernel, rfl⟩
theorem dL_restore_2 : Dc cL_restore 2 (.aload_n 0) 1 3 := ⟨by decide +kernel, rfl⟩
theorem dL_restore_3 : Dc cL_restore 3 (.invokevirtual 55) 3 6 := ⟨by decide +kernel, rfl⟩
theorem dL_restore_6 : Dc cL_restore 6 (.i2l) 1 7 := ⟨by decide +kernel, rfl⟩
theorem dL_restore_7 : Dc cL_restore 7 (.lastore) 1 8 := ⟨by decide +kernel, rfl⟩
theorem dL_restore_8 : Dj cL_restore 8 (.goto 6) 3 11 (6) 14 := ⟨by decide +kernel, rfl, by decide⟩
theorem dL_restore_11 : Dc cL_restore 11 (.astore_n 2) 1 12 := ⟨by decide +kernel, rfl⟩
theorem dL_restore_12 : Dc cL_restore 12 (.iconst 1) 1 13 := ⟨by decide +kernel, rfl⟩
theorem dL_restore_13 : Dc cL_restore 13 (.ireturn) 1 14 := ⟨by decide +kernel, rfl⟩
theorem dL_restore_14 : Dc cL_restore 14 (.iconst 0) 1 15 := ⟨by decide +kernel, rfl⟩
theorem dL_restore_15 : Dc cL_restore 15 (.ireturn) 1 16 := ⟨by decide +kernel, rfl⟩
def F_L_restore (o : OM) : Option (Int32 × OM) := bn (F_X5_restore o ) (fun q o1 => grd (okc [2] q.1) (some (wk [2] q.1, wo q o1)))
abbrev rmL_restore : Room := { frames := 7, cells := 0, slots := 0, locals := 145 }
set_option maxHeartbeats 4000000 in
set_option maxRecDepth 100000 in
theorem ctL_restore (l : Launch) (G : Gd) (hl9 : l.stackTraces = false) (o : OM)  {k : Int32} {o9 : OM} (hf : F_L_restore o  = some (k, o9)) : ∃ code, Ctw l yL_restore cL_restore 3 [(0, 8, 11, 15)] rmL_restore G [.ref (rA G 0 0), .ref (rA G 24 0)] o code k o9 := by
  obtain ⟨q, o1, h1, h2⟩ := bn_s hf
  obtain ⟨g2, h3⟩ := grd_s h2
  cases h3
  obtain ⟨code, v⟩ := q
  refine ⟨code, ctw_of (by decide) (Nat.le_of_ble_eq_true rfl) (fun p e s m below meth c ls C hT X P hl => ?_)⟩
  have C : Cx G RL cL_restore 3 (some .int) p s m _ meth c := C
  have hl : lv_has ls 3 [(0, .ref (rA G 0 0)), (1, .ref (rA G 24 0))] := hl
  have hle : mcx code ≤ 1 := by unfold mcx; split <;> omega
  refine r_aload_n C hl 1 rfl rfl dL_restore_0 ?_
  refine r_iconst C (v := 0) (by decide) dL_restore_1 ?_
  refine r_aload_n C hl 0 rfl rfl dL_restore_2 ?_
  refine w_call C X P cf_L_55 (rm := rmX5_restore) rfl [] [.int 0, .ref (rA G 24 0)] (ctX5_restore l G hl9 o  h1) ⟨Nat.le_of_ble_eq_true rfl, Nat.le_of_ble_eq_true rfl⟩ ⟨by show mcx code ≤ mcx code; omega, by show 6 * mcx code ≤ 6 * mcx code; omega⟩ rfl rfl hl.1 (Nat.le_of_ble_eq_true rfl) dL_restore_3 (fun H1 L1 P hc => ?_) (fun H1 L1 ce qa P hc hcell hvm hcl => ?_)
  · subst hc
    refine r_i2l C dL_restore_6 ?_
    refine w_last C P dL_restore_7 (fun H1 L1 P => ?_)
    refine r_goto C dL_restore_8 ?_
    refine r_iconst C (v := 0) (by decide) dL_restore_14 ?_
    exact w_iret C P ⟨rfl, rfl⟩ dL_restore_15
  · have hcs : code = 2 := by
      simp only [okc, Bool.or_eq_true, decide_eq_true_eq] at g2
      rcases g2 with g2 | g2
      · exact absurd g2 hc
      · simpa using g2
    rcases hcs with rfl
    · refine vx_catch C.2.2.2.2.1 [] { startPc := 0, endPc := 8, handlerPc := 11, catchType := 15 } [] hT (fun z hz => nomatch hz) (by decide) (by decide) (C.2.2.2.2.2.1 _ wd_632) (va_Nw.use rfl (X.1.2.2.1 (.castable "java/lang/IllegalStateException" "java/lang/IllegalStateException") (by decide))) hcell hvm hcl ?_
      refine r_astore_n C [(2, .ref qa), (0, .ref (rA G 0 0)), (1, .ref (rA G 24 0))] hl (by decide) rfl rfl dL_restore_11 (fun ls hl => ?_)
      refine r_iconst C (v := 1) (by decide) dL_restore_12 ?_
      exact w_iret C P ⟨rfl, rfl⟩ dL_restore_13
theorem cf_L_58 : CallF false RL 58 yX5_reads cX5_reads 3 (some .int) 2 := ⟨wd_840, (by rw [if_neg (by decide)]; exact ⟨wd_549, wd_550⟩), wd_65, wd_551, by decide, by decide +kernel⟩
theorem dL_reads_0 : Dc cL_reads 0 (.aload_n 3) 1 1 := ⟨by decide +kernel, rfl⟩
theorem dL_reads_1 : Dc cL_reads 1 (.iconst 0) 1 2 := ⟨by decide +kernel, rfl⟩
theorem dL_reads_2 : Dc cL_reads 2 (.aload_n 0) 1 3 := ⟨by decide +kernel, rfl⟩
theorem dL_reads_3 : Dc cL_reads 3 (.iload_n 1) 1 4 := ⟨by decide +kernel, rfl⟩
theorem dL_reads_4 : Dc cL_reads 4 (.iload_n 2) 1 5 := ⟨by decide +kernel, rfl⟩
theorem dL_reads_5 : Dc cL_reads 5 (.invokevirtual 58) 3 8 := ⟨by decide +kernel, rfl⟩
theorem dL_reads_8 : Dc cL_reads 8 (.i2l) 1 9 := ⟨by decide +kernel, rfl⟩
theorem dL_reads_9 : Dc cL_reads 9 (.lastore) 1 10 := ⟨by decide +kernel, rfl⟩
theorem dL_reads_10 : Dj cL_reads 10 (.goto 11) 3 13 (11) 21 := ⟨by decide +kernel, rfl, by decide⟩
theorem dL_reads_13 : Dc cL_reads 13 (.astore 4) 2 15 := ⟨by decide +kernel, rfl⟩
theorem dL_reads_15 : Dc cL_reads 15 (.iconst 1) 1 16 := ⟨by decide +kernel, rfl⟩
theorem dL_reads_16 : Dc cL_reads 16 (.ireturn) 1 17 := ⟨by decide +kernel, rfl⟩
theorem dL_reads_17 : Dc cL_reads 17 (.astore 4) 2 19 := ⟨by decide +kernel, rfl⟩
theorem dL_reads_19 : Dc cL_reads 19 (.iconst 2) 1 20 := ⟨by decide +kernel, rfl⟩
theorem dL_reads_20 : Dc cL_reads 20 (.ireturn) 1 21 := ⟨by decide +kernel, rfl⟩
theorem dL_reads_21 : Dc cL_reads 21 (.iconst 0) 1 22 := ⟨by decide +kernel, rfl⟩
theorem dL_reads_22 : Dc cL_reads 22 (.ireturn) 1 23 := ⟨by decide +kernel, rfl⟩
def F_L_reads (o : OM) (v1 : Int32) (v2 : Int32) : Option (Int32 × OM) := bn (F_X5_reads o v1 v2) (fun q o1 => grd (okc [3, 1] q.1) (some (wk [3, 1] q.1, wo q o1)))
abbrev rmL_reads : Room := { frames := 8, cells := 0, slots := 0, locals := 125 }
set_option maxHeartbeats 4000000 in
set_option maxRecDepth 100000 in
theorem ctL_reads (l : Launch) (G : Gd) (hl9 : l.stackTraces = false) (o : OM) (v1 : Int32) (v2 : Int32) {k : Int32} {o9 : OM} (hf : F_L_reads o v1 v2 = some (k, o9)) : ∃ code, Ctw l yL_reads cL_reads 5 [(0, 10, 13, 21), (0, 10, 17, 13)] rmL_reads G [.ref (rA G 0 0), .int v1, .int v2, .ref (rA G 24 0)] o code k o9 := by
  obtain ⟨q, o1, h1, h2⟩ := bn_s hf
  obtain ⟨g2, h3⟩ := grd_s h2
  cases h3
  obtain ⟨code, v⟩ := q
  refine ⟨code, ctw_of (by decide) (Nat.le_of_ble_eq_true rfl) (fun p e s m below meth c ls C hT X P hl => ?_)⟩
  have C : Cx G RL cL_reads 5 (some .int) p s m _ meth c := C
  have hl : lv_has ls 5 [(0, .ref (rA G 0 0)), (1, .int v1), (2, .int v2), (3, .ref (rA G 24 0))] := hl
  have hle : mcx code ≤ 1 := by unfold mcx; split <;> omega
  refine r_aload_n C hl 3 rfl rfl dL_reads_0 ?_
  refine r_iconst C (v := 0) (by decide) dL_reads_1 ?_
  refine r_aload_n C hl 0 rfl rfl dL_reads_2 ?_
  refine r_iload_n C hl 1 rfl rfl dL_reads_3 ?_
  refine r_iload_n C hl 2 rfl rfl dL_reads_4 ?_
  refine w_call C X P cf_L_58 (rm := rmX5_reads) rfl [.int v1, .int v2] [.int 0, .ref (rA G 24 0)] (ctX5_reads l G hl9 o v1 v2 h1) ⟨Nat.le_of_ble_eq_true rfl, Nat.le_of_ble_eq_true rfl⟩ ⟨by show mcx code ≤ mcx code; omega, by show 6 * mcx code ≤ 6 * mcx code; omega⟩ rfl rfl hl.1 (Nat.le_of_ble_eq_true rfl) dL_reads_5 (fun H1 L1 P hc => ?_) (fun H1 L1 ce qa P hc hcell hvm hcl => ?_)
  · subst hc
    refine r_i2l C dL_reads_8 ?_
    refine w_last C P dL_reads_9 (fun H1 L1 P => ?_)
    refine r_goto C dL_reads_10 ?_
    refine r_iconst C (v := 0) (by decide) dL_reads_21 ?_
    exact w_iret C P ⟨rfl, rfl⟩ dL_reads_22
  · have hcs : code = 3 ∨ code = 1 := by
      simp only [okc, Bool.or_eq_true, decide_eq_true_eq] at g2
      rcases g2 with g2 | g2
      · exact absurd g2 hc
      · simpa using g2
    rcases hcs with rfl | rfl
    · refine vx_catch C.2.2.2.2.1 [] { startPc := 0, endPc := 10, handlerPc := 13, catchType := 21 } [{ startPc := 0, endPc := 10, handlerPc := 17, catchType := 13 }] hT (fun z hz => nomatch hz) (by decide) (by decide) (C.2.2.2.2.2.1 _ wd_675) (va_Nw.use rfl (X.1.2.2.1 (.castable "java/lang/IndexOutOfBoundsException" "java/lang/IndexOutOfBoundsException") (by decide))) hcell hvm hcl ?_
      refine r_astore C [(4, .ref qa), (0, .ref (rA G 0 0)), (1, .int v1), (2, .int v2), (3, .ref (rA G 24 0))] hl (by decide) rfl dL_reads_13 (fun ls hl => ?_)
      refine r_iconst C (v := 1) (by decide) dL_reads_15 ?_
      exact w_iret C P ⟨rfl, rfl⟩ dL_reads_16
    · refine vx_catch C.2.2.2.2.1 [{ startPc := 0, endPc := 10, handlerPc := 13, catchType := 21 }] { startPc := 0, endPc := 10, handlerPc := 17, catchType := 13 } [] hT (fun z hz => by
        simp only [List.mem_singleton] at hz
        subst hz
        exact Or.inr ⟨by decide, "java/lang/IndexOutOfBoundsException", C.2.2.2.2.2.1 _ wd_675, X.2 ("java/lang/IllegalArgumentException", "java/lang/IndexOutOfBoundsException") (by decide)⟩) (by decide) (by decide) (C.2.2.2.2.2.1 _ wd_631) (va_Nw.use rfl (X.1.2.2.1 (.castable "java/lang/IllegalArgumentException" "java/lang/IllegalArgumentException") (by decide))) hcell hvm hcl ?_
      refine r_astore C [(4, .ref qa), (0, .ref (rA G 0 0)), (1, .int v1), (2, .int v2), (3, .ref (rA G 24 0))] hl (by decide) rfl dL_reads_17 (fun ls hl => ?_)
      refine r_iconst C (v := 2) (by decide) dL_reads_19 ?_
      exact w_iret C P ⟨rfl, rfl⟩ dL_reads_20
theorem cf_L_61 : CallF false RL 61 yX5_corrected cX5_corrected 5 (some .int) 3 := ⟨wd_844, (by rw [if_neg (by decide)]; exact ⟨wd_560, wd_561⟩), wd_65, wd_562, by decide, by decide +kernel⟩
theorem dL_corrected_0 : Dc cL_corrected 0 (.aload 4) 2 2 := ⟨by decide +kernel, rfl⟩
theorem dL_corrected_2 : Dc cL_corrected 2 (.iconst 0) 1 3 := ⟨by decide +kernel, rfl⟩
theorem dL_corrected_3 : Dc cL_corrected 3 (.aload_n 0) 1 4 := ⟨by decide +kernel, rfl⟩
theorem dL_corrected_4 : Dc cL_corrected 4 (.iload_n 1) 1 5 := ⟨by decide +kernel, rfl⟩
theorem dL_corrected_5 : Dc cL_corrected 5 (.iload_n 2) 1 6 := ⟨by decide +kernel, rfl⟩
theorem dL_corrected_6 : Dc cL_corrected 6 (.iload_n 3) 1 7 := ⟨by decide +kernel, rfl⟩
theorem dL_corrected_7 : Dc cL_corrected 7 (.invokevirtual 61) 3 10 := ⟨by decide +kernel, rfl⟩
theorem dL_corrected_10 : Dc cL_corrected 10 (.i2l) 1 11 := ⟨by decide +kernel, rfl⟩
theorem dL_corrected_11 : Dc cL_corrected 11 (.lastore) 1 12 := ⟨by decide +kernel, rfl⟩
theorem dL_corrected_12 : Dj cL_corrected 12 (.goto 11) 3 15 (11) 23 := ⟨by decide +kernel, rfl, by decide⟩
theorem dL_corrected_15 : Dc cL_corrected 15 (.astore 5) 2 17 := ⟨by decide +kernel, rfl⟩
theorem dL_corrected_17 : Dc cL_corrected 17 (.iconst 1) 1 18 := ⟨by decide +kernel, rfl⟩
theorem dL_corrected_18 : Dc cL_corrected 18 (.ireturn) 1 19 := ⟨by decide +kernel, rfl⟩
theorem dL_corrected_19 : Dc cL_corrected 19 (.astore 5) 2 21 := ⟨by decide +kernel, rfl⟩
theorem dL_corrected_21 : Dc cL_corrected 21 (.iconst 2) 1 22 := ⟨by decide +kernel, rfl⟩
theorem dL_corrected_22 : Dc cL_corrected 22 (.ireturn) 1 23 := ⟨by decide +kernel, rfl⟩
theorem dL_corrected_23 : Dc cL_corrected 23 (.iconst 0) 1 24 := ⟨by decide +kernel, rfl⟩
theorem dL_corrected_24 : Dc cL_corrected 24 (.ireturn) 1 25 := ⟨by decide +kernel, rfl⟩
def F_L_corrected (o : OM) (v1 : Int32) (v2 : Int32) (v3 : Int32) : Option (Int32 × OM) := bn (F_X5_corrected o v1 v2 v3) (fun q o1 => grd (okc [3, 1] q.1) (some (wk [3, 1] q.1, wo q o1)))
abbrev rmL_corrected : Room := { frames := 8, cells := 0, slots := 0, locals := 127 }
set_option maxHeartbeats 4000000 in
set_option maxRecDepth 100000 in
theorem ctL_corrected (l : Launch) (G : Gd) (hl9 : l.stackTraces = false) (o : OM) (v1 : Int32) (v2 : Int32) (v3 : Int32) {k : Int32} {o9 : OM} (hf : F_L_corrected o v1 v2 v3 = some (k, o9)) : ∃ code, Ctw l yL_corrected cL_corrected 6 [(0, 12, 15, 21), (0, 12, 19, 13)] rmL_corrected G [.ref (rA G 0 0), .int v1, .int v2, .int v3, .ref (rA G 24 0)] o code k o9 := by
  obtain ⟨q, o1, h1, h2⟩ := bn_s hf
  obtain ⟨g2, h3⟩ := grd_s h2
  cases h3
  obtain ⟨code, v⟩ := q
  refine ⟨code, ctw_of (by decide) (Nat.le_of_ble_eq_true rfl) (fun p e s m below meth c ls C hT X P hl => ?_)⟩
  have C : Cx G RL cL_corrected 6 (some .int) p s m _ meth c := C
  have hl : lv_has ls 6 [(0, .ref (rA G 0 0)), (1, .int v1), (2, .int v2), (3, .int v3), (4, .ref (rA G 24 0))] := hl
  have hle : mcx code ≤ 1 := by unfold mcx; split <;> omega
  refine r_aload C hl 4 rfl dL_corrected_0 ?_
  refine r_iconst C (v := 0) (by decide) dL_corrected_2 ?_
  refine r_aload_n C hl 0 rfl rfl dL_corrected_3 ?_
  refine r_iload_n C hl 1 rfl rfl dL_corrected_4 ?_
  refine r_iload_n C hl 2 rfl rfl dL_corrected_5 ?_
  refine r_iload_n C hl 3 rfl rfl dL_corrected_6 ?_
  refine w_call C X P cf_L_61 (rm := rmX5_corrected) rfl [.int v1, .int v2, .int v3] [.int 0, .ref (rA G 24 0)] (ctX5_corrected l G hl9 o v1 v2 v3 h1) ⟨Nat.le_of_ble_eq_true rfl, Nat.le_of_ble_eq_true rfl⟩ ⟨by show mcx code ≤ mcx code; omega, by show 6 * mcx code ≤ 6 * mcx code; omega⟩ rfl rfl hl.1 (Nat.le_of_ble_eq_true rfl) dL_corrected_7 (fun H1 L1 P hc => ?_) (fun H1 L1 ce qa P hc hcell hvm hcl => ?_)
  · subst hc
    refine r_i2l C dL_corrected_10 ?_
    refine w_last C P dL_corrected_11 (fun H1 L1 P => ?_)
    refine r_goto C dL_corrected_12 ?_
    refine r_iconst C (v := 0) (by decide) dL_corrected_23 ?_
    exact w_iret C P ⟨rfl, rfl⟩ dL_corrected_24
  · have hcs : code = 3 ∨ code = 1 := by
      simp only [okc, Bool.or_eq_true, decide_eq_true_eq] at g2
      rcases g2 with g2 | g2
      · exact absurd g2 hc
      · simpa using g2
    rcases hcs with rfl | rfl
    · refine vx_catch C.2.2.2.2.1 [] { startPc := 0, endPc := 12, handlerPc := 15, catchType := 21 } [{ startPc := 0, endPc := 12, handlerPc := 19, catchType := 13 }] hT (fun z hz => nomatch hz) (by decide) (by decide) (C.2.2.2.2.2.1 _ wd_675) (va_Nw.use rfl (X.1.2.2.1 (.castable "java/lang/IndexOutOfBoundsException" "java/lang/IndexOutOfBoundsException") (by decide))) hcell hvm hcl ?_
      refine r_astore C [(5, .ref qa), (0, .ref (rA G 0 0)), (1, .int v1), (2, .int v2), (3, .int v3), (4, .ref (rA G 24 0))] hl (by decide) rfl dL_corrected_15 (fun ls hl => ?_)
      refine r_iconst C (v := 1) (by decide) dL_corrected_17 ?_
      exact w_iret C P ⟨rfl, rfl⟩ dL_corrected_18
    · refine vx_catch C.2.2.2.2.1 [{ startPc := 0, endPc := 12, handlerPc := 15, catchType := 21 }] { startPc := 0, endPc := 12, handlerPc := 19, catchType := 13 } [] hT (fun z hz => by
        simp only [List.mem_singleton] at hz
        subst hz
        exact Or.inr ⟨by decide, "java/lang/IndexOutOfBoundsException", C.2.2.2.2.2.1 _ wd_675, X.2 ("java/lang/IllegalArgumentException", "java/lang/IndexOutOfBoundsException") (by decide)⟩) (by decide) (by decide) (C.2.2.2.2.2.1 _ wd_631) (va_Nw.use rfl (X.1.2.2.1 (.castable "java/lang/IllegalArgumentException" "java/lang/IllegalArgumentException") (by decide))) hcell hvm hcl ?_
      refine r_astore C [(5, .ref qa), (0, .ref (rA G 0 0)), (1, .int v1), (2, .int v2), (3, .int v3), (4, .ref (rA G 24 0))] hl (by decide) rfl dL_corrected_19 (fun ls hl => ?_)
      refine r_iconst C (v := 2) (by decide) dL_corrected_21 ?_
      exact w_iret C P ⟨rfl, rfl⟩ dL_corrected_22
theorem cf_L_64 : CallF false RL 64 yX5_thermometer cX5_thermometer 4 (some .int) 2 := ⟨wd_848, (by rw [if_neg (by decide)]; exact ⟨wd_457, wd_458⟩), wd_65, wd_459, by decide, by decide +kernel⟩
theorem dL_thermometer_0 : Dc cL_thermometer 0 (.aload_n 3) 1 1 := ⟨by decide +kernel, rfl⟩
theorem dL_thermometer_1 : Dc cL_thermometer 1 (.iconst 0) 1 2 := ⟨by decide +kernel, rfl⟩
theorem dL_thermometer_2 : Dc cL_thermometer 2 (.aload_n 0) 1 3 := ⟨by decide +kernel, rfl⟩
theorem dL_thermometer_3 : Dc cL_thermometer 3 (.iload_n 1) 1 4 := ⟨by decide +kernel, rfl⟩
theorem dL_thermometer_4 : Dc cL_thermometer 4 (.iload_n 2) 1 5 := ⟨by decide +kernel, rfl⟩
theorem dL_thermometer_5 : Dc cL_thermometer 5 (.invokevirtual 64) 3 8 := ⟨by decide +kernel, rfl⟩
theorem dL_thermometer_8 : Dc cL_thermometer 8 (.i2l) 1 9 := ⟨by decide +kernel, rfl⟩
theorem dL_thermometer_9 : Dc cL_thermometer 9 (.lastore) 1 10 := ⟨by decide +kernel, rfl⟩
theorem dL_thermometer_10 : Dj cL_thermometer 10 (.goto 11) 3 13 (11) 21 := ⟨by decide +kernel, rfl, by decide⟩
theorem dL_thermometer_13 : Dc cL_thermometer 13 (.astore 4) 2 15 := ⟨by decide +kernel, rfl⟩
theorem dL_thermometer_15 : Dc cL_thermometer 15 (.iconst 1) 1 16 := ⟨by decide +kernel, rfl⟩
theorem dL_thermometer_16 : Dc cL_thermometer 16 (.ireturn) 1 17 := ⟨by decide +kernel, rfl⟩
theorem dL_thermometer_17 : Dc cL_thermometer 17 (.astore 4) 2 19 := ⟨by decide +kernel, rfl⟩
theorem dL_thermometer_19 : Dc cL_thermometer 19 (.iconst 2) 1 20 := ⟨by decide +kernel, rfl⟩
theorem dL_thermometer_20 : Dc cL_thermometer 20 (.ireturn) 1 21 := ⟨by decide +kernel, rfl⟩
theorem dL_thermometer_21 : Dc cL_thermometer 21 (.iconst 0) 1 22 := ⟨by decide +kernel, rfl⟩
theorem dL_thermometer_22 : Dc cL_thermometer 22 (.ireturn) 1 23 := ⟨by decide +kernel, rfl⟩
def F_L_thermometer (o : OM) (v1 : Int32) (v2 : Int32) : Option (Int32 × OM) := bn (F_X5_thermometer o v1 v2) (fun q o1 => grd (okc [3, 1] q.1) (some (wk [3, 1] q.1, wo q o1)))
abbrev rmL_thermometer : Room := { frames := 8, cells := 0, slots := 0, locals := 142 }
set_option maxHeartbeats 4000000 in
set_option maxRecDepth 100000 in
theorem ctL_thermometer (l : Launch) (G : Gd) (hl9 : l.stackTraces = false) (o : OM) (v1 : Int32) (v2 : Int32) {k : Int32} {o9 : OM} (hf : F_L_thermometer o v1 v2 = some (k, o9)) : ∃ code, Ctw l yL_thermometer cL_thermometer 5 [(0, 10, 13, 21), (0, 10, 17, 13)] rmL_thermometer G [.ref (rA G 0 0), .int v1, .int v2, .ref (rA G 24 0)] o code k o9 := by
  obtain ⟨q, o1, h1, h2⟩ := bn_s hf
  obtain ⟨g2, h3⟩ := grd_s h2
  cases h3
  obtain ⟨code, v⟩ := q
  refine ⟨code, ctw_of (by decide) (Nat.le_of_ble_eq_true rfl) (fun p e s m below meth c ls C hT X P hl => ?_)⟩
  have C : Cx G RL cL_thermometer 5 (some .int) p s m _ meth c := C
  have hl : lv_has ls 5 [(0, .ref (rA G 0 0)), (1, .int v1), (2, .int v2), (3, .ref (rA G 24 0))] := hl
  have hle : mcx code ≤ 1 := by unfold mcx; split <;> omega
  refine r_aload_n C hl 3 rfl rfl dL_thermometer_0 ?_
  refine r_iconst C (v := 0) (by decide) dL_thermometer_1 ?_
  refine r_aload_n C hl 0 rfl rfl dL_thermometer_2 ?_
  refine r_iload_n C hl 1 rfl rfl dL_thermometer_3 ?_
  refine r_iload_n C hl 2 rfl rfl dL_thermometer_4 ?_
  refine w_call C X P cf_L_64 (rm := rmX5_thermometer) rfl [.int v1, .int v2] [.int 0, .ref (rA G 24 0)] (ctX5_thermometer l G hl9 o v1 v2 h1) ⟨Nat.le_of_ble_eq_true rfl, Nat.le_of_ble_eq_true rfl⟩ ⟨by show mcx code ≤ mcx code; omega, by show 6 * mcx code ≤ 6 * mcx code; omega⟩ rfl rfl hl.1 (Nat.le_of_ble_eq_true rfl) dL_thermometer_5 (fun H1 L1 P hc => ?_) (fun H1 L1 ce qa P hc hcell hvm hcl => ?_)
  · subst hc
    refine r_i2l C dL_thermometer_8 ?_
    refine w_last C P dL_thermometer_9 (fun H1 L1 P => ?_)
    refine r_goto C dL_thermometer_10 ?_
    refine r_iconst C (v := 0) (by decide) dL_thermometer_21 ?_
    exact w_iret C P ⟨rfl, rfl⟩ dL_thermometer_22
  · have hcs : code = 3 ∨ code = 1 := by
      simp only [okc, Bool.or_eq_true, decide_eq_true_eq] at g2
      rcases g2 with g2 | g2
      · exact absurd g2 hc
      · simpa using g2
    rcases hcs with rfl | rfl
    · refine vx_catch C.2.2.2.2.1 [] { startPc := 0, endPc := 10, handlerPc := 13, catchType := 21 } [{ startPc := 0, endPc := 10, handlerPc := 17, catchType := 13 }] hT (fun z hz => nomatch hz) (by decide) (by decide) (C.2.2.2.2.2.1 _ wd_675) (va_Nw.use rfl (X.1.2.2.1 (.castable "java/lang/IndexOutOfBoundsException" "java/lang/IndexOutOfBoundsException") (by decide))) hcell hvm hcl ?_
      refine r_astore C [(4, .ref qa), (0, .ref (rA G 0 0)), (1, .int v1), (2, .int v2), (3, .ref (rA G 24 0))] hl (by decide) rfl dL_thermometer_13 (fun ls hl => ?_)
      refine r_iconst C (v := 1) (by decide) dL_thermometer_15 ?_
      exact w_iret C P ⟨rfl, rfl⟩ dL_thermometer_16
    · refine vx_catch C.2.2.2.2.1 [{ startPc := 0, endPc := 10, handlerPc := 13, catchType := 21 }] { startPc := 0, endPc := 10, handlerPc := 17, catchType := 13 } [] hT (fun z hz => by
        simp only [List.mem_singleton] at hz
        subst hz
        exact Or.inr ⟨by decide, "java/lang/IndexOutOfBoundsException", C.2.2.2.2.2.1 _ wd_675, X.2 ("java/lang/IllegalArgumentException", "java/lang/IndexOutOfBoundsException") (by decide)⟩) (by decide) (by decide) (C.2.2.2.2.2.1 _ wd_631) (va_Nw.use rfl (X.1.2.2.1 (.castable "java/lang/IllegalArgumentException" "java/lang/IllegalArgumentException") (by decide))) hcell hvm hcl ?_
      refine r_astore C [(4, .ref qa), (0, .ref (rA G 0 0)), (1, .int v1), (2, .int v2), (3, .ref (rA G 24 0))] hl (by decide) rfl dL_thermometer_17 (fun ls hl => ?_)
      refine r_iconst C (v := 2) (by decide) dL_thermometer_19 ?_
      exact w_iret C P ⟨rfl, rfl⟩ dL_thermometer_20
theorem cf_L_67 : CallF false RL 67 yX5_point cX5_point 6 (some .int) 3 := ⟨wd_852, (by rw [if_neg (by decide)]; exact ⟨wd_539, wd_540⟩), wd_65, wd_541, by decide, by decide +kernel⟩
theorem dL_point_0 : Dc cL_point 0 (.aload 4) 2 2 := ⟨by decide +kernel, rfl⟩
theorem dL_point_2 : Dc cL_point 2 (.iconst 0) 1 3 := ⟨by decide +kernel, rfl⟩
theorem dL_point_3 : Dc cL_point 3 (.aload_n 0) 1 4 := ⟨by decide +kernel, rfl⟩
theorem dL_point_4 : Dc cL_point 4 (.iload_n 1) 1 5 := ⟨by decide +kernel, rfl⟩
theorem dL_point_5 : Dc cL_point 5 (.iload_n 2) 1 6 := ⟨by decide +kernel, rfl⟩
theorem dL_point_6 : Dc cL_point 6 (.iload_n 3) 1 7 := ⟨by decide +kernel, rfl⟩
theorem dL_point_7 : Dc cL_point 7 (.invokevirtual 67) 3 10 := ⟨by decide +kernel, rfl⟩
theorem dL_point_10 : Dc cL_point 10 (.i2l) 1 11 := ⟨by decide +kernel, rfl⟩
theorem dL_point_11 : Dc cL_point 11 (.lastore) 1 12 := ⟨by decide +kernel, rfl⟩
theorem dL_point_12 : Dj cL_point 12 (.goto 11) 3 15 (11) 23 := ⟨by decide +kernel, rfl, by decide⟩
theorem dL_point_15 : Dc cL_point 15 (.astore 5) 2 17 := ⟨by decide +kernel, rfl⟩
theorem dL_point_17 : Dc cL_point 17 (.iconst 1) 1 18 := ⟨by decide +kernel, rfl⟩
theorem dL_point_18 : Dc cL_point 18 (.ireturn) 1 19 := ⟨by decide +kernel, rfl⟩
theorem dL_point_19 : Dc cL_point 19 (.astore 5) 2 21 := ⟨by decide +kernel, rfl⟩
theorem dL_point_21 : Dc cL_point 21 (.iconst 2) 1 22 := ⟨by decide +kernel, rfl⟩
theorem dL_point_22 : Dc cL_point 22 (.ireturn) 1 23 := ⟨by decide +kernel, rfl⟩
theorem dL_point_23 : Dc cL_point 23 (.iconst 0) 1 24 := ⟨by decide +kernel, rfl⟩
theorem dL_point_24 : Dc cL_point 24 (.ireturn) 1 25 := ⟨by decide +kernel, rfl⟩
def F_L_point (o : OM) (v1 : Int32) (v2 : Int32) (v3 : Int32) : Option (Int32 × OM) := bn (F_X5_point o v1 v2 v3) (fun q o1 => grd (okc [3, 1] q.1) (some (wk [3, 1] q.1, wo q o1)))
abbrev rmL_point : Room := { frames := 8, cells := 0, slots := 0, locals := 128 }
set_option maxHeartbeats 4000000 in
set_option maxRecDepth 100000 in
theorem ctL_point (l : Launch) (G : Gd) (hl9 : l.stackTraces = false) (o : OM) (v1 : Int32) (v2 : Int32) (v3 : Int32) {k : Int32} {o9 : OM} (hf : F_L_point o v1 v2 v3 = some (k, o9)) : ∃ code, Ctw l yL_point cL_point 6 [(0, 12, 15, 21), (0, 12, 19, 13)] rmL_point G [.ref (rA G 0 0), .int v1, .int v2, .int v3, .ref (rA G 24 0)] o code k o9 := by
  obtain ⟨q, o1, h1, h2⟩ := bn_s hf
  obtain ⟨g2, h3⟩ := grd_s h2
  cases h3
  obtain ⟨code, v⟩ := q
  refine ⟨code, ctw_of (by decide) (Nat.le_of_ble_eq_true rfl) (fun p e s m below meth c ls C hT X P hl => ?_)⟩
  have C : Cx G RL cL_point 6 (some .int) p s m _ meth c := C
  have hl : lv_has ls 6 [(0, .ref (rA G 0 0)), (1, .int v1), (2, .int v2), (3, .int v3), (4, .ref (rA G 24 0))] := hl
  have hle : mcx code ≤ 1 := by unfold mcx; split <;> omega
  refine r_aload C hl 4 rfl dL_point_0 ?_
  refine r_iconst C (v := 0) (by decide) dL_point_2 ?_
  refine r_aload_n C hl 0 rfl rfl dL_point_3 ?_
  refine r_iload_n C hl 1 rfl rfl dL_point_4 ?_
  refine r_iload_n C hl 2 rfl rfl dL_point_5 ?_
  refine r_iload_n C hl 3 rfl rfl dL_point_6 ?_
  refine w_call C X P cf_L_67 (rm := rmX5_point) rfl [.int v1, .int v2, .int v3] [.int 0, .ref (rA G 24 0)] (ctX5_point l G hl9 o v1 v2 v3 h1) ⟨Nat.le_of_ble_eq_true rfl, Nat.le_of_ble_eq_true rfl⟩ ⟨by show mcx code ≤ mcx code; omega, by show 6 * mcx code ≤ 6 * mcx code; omega⟩ rfl rfl hl.1 (Nat.le_of_ble_eq_true rfl) dL_point_7 (fun H1 L1 P hc => ?_) (fun H1 L1 ce qa P hc hcell hvm hcl => ?_)
  · subst hc
    refine r_i2l C dL_point_10 ?_
    refine w_last C P dL_point_11 (fun H1 L1 P => ?_)
    refine r_goto C dL_point_12 ?_
    refine r_iconst C (v := 0) (by decide) dL_point_23 ?_
    exact w_iret C P ⟨rfl, rfl⟩ dL_point_24
  · have hcs : code = 3 ∨ code = 1 := by
      simp only [okc, Bool.or_eq_true, decide_eq_true_eq] at g2
      rcases g2 with g2 | g2
      · exact absurd g2 hc
      · simpa using g2
    rcases hcs with rfl | rfl
    · refine vx_catch C.2.2.2.2.1 [] { startPc := 0, endPc := 12, handlerPc := 15, catchType := 21 } [{ startPc := 0, endPc := 12, handlerPc := 19, catchType := 13 }] hT (fun z hz => nomatch hz) (by decide) (by decide) (C.2.2.2.2.2.1 _ wd_675) (va_Nw.use rfl (X.1.2.2.1 (.castable "java/lang/IndexOutOfBoundsException" "java/lang/IndexOutOfBoundsException") (by decide))) hcell hvm hcl ?_
      refine r_astore C [(5, .ref qa), (0, .ref (rA G 0 0)), (1, .int v1), (2, .int v2), (3, .int v3), (4, .ref (rA G 24 0))] hl (by decide) rfl dL_point_15 (fun ls hl => ?_)
      refine r_iconst C (v := 1) (by decide) dL_point_17 ?_
      exact w_iret C P ⟨rfl, rfl⟩ dL_point_18
    · refine vx_catch C.2.2.2.2.1 [{ startPc := 0, endPc := 12, handlerPc := 15, catchType := 21 }] { startPc := 0, endPc := 12, handlerPc := 19, catchType := 13 } [] hT (fun z hz => by
        simp only [List.mem_singleton] at hz
        subst hz
        exact Or.inr ⟨by decide, "java/lang/IndexOutOfBoundsException", C.2.2.2.2.2.1 _ wd_675, X.2 ("java/lang/IllegalArgumentException", "java/lang/IndexOutOfBoundsException") (by decide)⟩) (by decide) (by decide) (C.2.2.2.2.2.1 _ wd_631) (va_Nw.use rfl (X.1.2.2.1 (.castable "java/lang/IllegalArgumentException" "java/lang/IllegalArgumentException") (by decide))) hcell hvm hcl ?_
      refine r_astore C [(5, .ref qa), (0, .ref (rA G 0 0)), (1, .int v1), (2, .int v2), (3, .int v3), (4, .ref (rA G 24 0))] hl (by decide) rfl dL_point_19 (fun ls hl => ?_)
      refine r_iconst C (v := 2) (by decide) dL_point_21 ?_
      exact w_iret C P ⟨rfl, rfl⟩ dL_point_22
theorem cf_L_70 : CallF false RL 70 yX5_count cX5_count 2 (some .int) 1 := ⟨wd_856, (by rw [if_neg (by decide)]; exact ⟨wd_366, wd_367⟩), wd_65, wd_368, by decide, by decide +kernel⟩
theorem dL_count_0 : Dc cL_count 0 (.aload_n 2) 1 1 := ⟨by decide +kernel, rfl⟩
theorem dL_count_1 : Dc cL_count 1 (.iconst 0) 1 2 := ⟨by decide +kernel, rfl⟩
theorem dL_count_2 : Dc cL_count 2 (.aload_n 0) 1 3 := ⟨by decide +kernel, rfl⟩
theorem dL_count_3 : Dc cL_count 3 (.iload_n 1) 1 4 := ⟨by decide +kernel, rfl⟩
theorem dL_count_4 : Dc cL_count 4 (.invokevirtual 70) 3 7 := ⟨by decide +kernel, rfl⟩
theorem dL_count_7 : Dc cL_count 7 (.i2l) 1 8 := ⟨by decide +kernel, rfl⟩
theorem dL_count_8 : Dc cL_count 8 (.lastore) 1 9 := ⟨by decide +kernel, rfl⟩
theorem dL_count_9 : Dj cL_count 9 (.goto 6) 3 12 (6) 15 := ⟨by decide +kernel, rfl, by decide⟩
theorem dL_count_12 : Dc cL_count 12 (.astore_n 3) 1 13 := ⟨by decide +kernel, rfl⟩
theorem dL_count_13 : Dc cL_count 13 (.iconst 1) 1 14 := ⟨by decide +kernel, rfl⟩
theorem dL_count_14 : Dc cL_count 14 (.ireturn) 1 15 := ⟨by decide +kernel, rfl⟩
theorem dL_count_15 : Dc cL_count 15 (.iconst 0) 1 16 := ⟨by decide +kernel, rfl⟩
theorem dL_count_16 : Dc cL_count 16 (.ireturn) 1 17 := ⟨by decide +kernel, rfl⟩
def F_L_count (o : OM) (v1 : Int32) : Option (Int32 × OM) := bn (F_X5_count o v1) (fun q o1 => grd (okc [1] q.1) (some (wk [1] q.1, wo q o1)))
abbrev rmL_count : Room := { frames := 7, cells := 0, slots := 0, locals := 103 }
set_option maxHeartbeats 4000000 in
set_option maxRecDepth 100000 in
theorem ctL_count (l : Launch) (G : Gd) (hl9 : l.stackTraces = false) (o : OM) (v1 : Int32) {k : Int32} {o9 : OM} (hf : F_L_count o v1 = some (k, o9)) : ∃ code, Ctw l yL_count cL_count 4 [(0, 9, 12, 13)] rmL_count G [.ref (rA G 0 0), .int v1, .ref (rA G 24 0)] o code k o9 := by
  obtain ⟨q, o1, h1, h2⟩ := bn_s hf
  obtain ⟨g2, h3⟩ := grd_s h2
  cases h3
  obtain ⟨code, v⟩ := q
  refine ⟨code, ctw_of (by decide) (Nat.le_of_ble_eq_true rfl) (fun p e s m below meth c ls C hT X P hl => ?_)⟩
  have C : Cx G RL cL_count 4 (some .int) p s m _ meth c := C
  have hl : lv_has ls 4 [(0, .ref (rA G 0 0)), (1, .int v1), (2, .ref (rA G 24 0))] := hl
  have hle : mcx code ≤ 1 := by unfold mcx; split <;> omega
  refine r_aload_n C hl 2 rfl rfl dL_count_0 ?_
  refine r_iconst C (v := 0) (by decide) dL_count_1 ?_
  refine r_aload_n C hl 0 rfl rfl dL_count_2 ?_
  refine r_iload_n C hl 1 rfl rfl dL_count_3 ?_
  refine w_call C X P cf_L_70 (rm := rmX5_count) rfl [.int v1] [.int 0, .ref (rA G 24 0)] (ctX5_count l G hl9 o v1 h1) ⟨Nat.le_of_ble_eq_true rfl, Nat.le_of_ble_eq_true rfl⟩ ⟨by show mcx code ≤ mcx code; omega, by show 6 * mcx code ≤ 6 * mcx code; omega⟩ rfl rfl hl.1 (Nat.le_of_ble_eq_true rfl) dL_count_4 (fun H1 L1 P hc => ?_) (fun H1 L1 ce qa P hc hcell hvm hcl => ?_)
  · subst hc
    refine r_i2l C dL_count_7 ?_
    refine w_last C P dL_count_8 (fun H1 L1 P => ?_)
    refine r_goto C dL_count_9 ?_
    refine r_iconst C (v := 0) (by decide) dL_count_15 ?_
    exact w_iret C P ⟨rfl, rfl⟩ dL_count_16
  · have hcs : code = 1 := by
      simp only [okc, Bool.or_eq_true, decide_eq_true_eq] at g2
      rcases g2 with g2 | g2
      · exact absurd g2 hc
      · simpa using g2
    rcases hcs with rfl
    · refine vx_catch C.2.2.2.2.1 [] { startPc := 0, endPc := 9, handlerPc := 12, catchType := 13 } [] hT (fun z hz => nomatch hz) (by decide) (by decide) (C.2.2.2.2.2.1 _ wd_631) (va_Nw.use rfl (X.1.2.2.1 (.castable "java/lang/IllegalArgumentException" "java/lang/IllegalArgumentException") (by decide))) hcell hvm hcl ?_
      refine r_astore_n C [(3, .ref qa), (0, .ref (rA G 0 0)), (1, .int v1), (2, .ref (rA G 24 0))] hl (by decide) rfl rfl dL_count_12 (fun ls hl => ?_)
      refine r_iconst C (v := 1) (by decide) dL_count_13 ?_
      exact w_iret C P ⟨rfl, rfl⟩ dL_count_14
theorem cf_L_73 : CallF false RL 73 yX5_whyNot cX5_whyNot 3 (some .int) 2 := ⟨wd_860, (by rw [if_neg (by decide)]; exact ⟨wd_576, wd_577⟩), wd_65, wd_578, by decide, by decide +kernel⟩
theorem dL_whyNot_0 : Dc cL_whyNot 0 (.aload_n 3) 1 1 := ⟨by decide +kernel, rfl⟩
theorem dL_whyNot_1 : Dc cL_whyNot 1 (.iconst 0) 1 2 := ⟨by decide +kernel, rfl⟩
theorem dL_whyNot_2 : Dc cL_whyNot 2 (.aload_n 0) 1 3 := ⟨by decide +kernel, rfl⟩
theorem dL_whyNot_3 : Dc cL_whyNot 3 (.iload_n 1) 1 4 := ⟨by decide +kernel, rfl⟩
theorem dL_whyNot_4 : Dc cL_whyNot 4 (.iload_n 2) 1 5 := ⟨by decide +kernel, rfl⟩
theorem dL_whyNot_5 : Dc cL_whyNot 5 (.invokevirtual 73) 3 8 := ⟨by decide +kernel, rfl⟩
theorem dL_whyNot_8 : Dc cL_whyNot 8 (.i2l) 1 9 := ⟨by decide +kernel, rfl⟩
theorem dL_whyNot_9 : Dc cL_whyNot 9 (.lastore) 1 10 := ⟨by decide +kernel, rfl⟩
theorem dL_whyNot_10 : Dj cL_whyNot 10 (.goto 7) 3 13 (7) 17 := ⟨by decide +kernel, rfl, by decide⟩
theorem dL_whyNot_13 : Dc cL_whyNot 13 (.astore 4) 2 15 := ⟨by decide +kernel, rfl⟩
theorem dL_whyNot_15 : Dc cL_whyNot 15 (.iconst 1) 1 16 := ⟨by decide +kernel, rfl⟩
theorem dL_whyNot_16 : Dc cL_whyNot 16 (.ireturn) 1 17 := ⟨by decide +kernel, rfl⟩
theorem dL_whyNot_17 : Dc cL_whyNot 17 (.iconst 0) 1 18 := ⟨by decide +kernel, rfl⟩
theorem dL_whyNot_18 : Dc cL_whyNot 18 (.ireturn) 1 19 := ⟨by decide +kernel, rfl⟩
def F_L_whyNot (o : OM) (v1 : Int32) (v2 : Int32) : Option (Int32 × OM) := bn (F_X5_whyNot o v1 v2) (fun q o1 => grd (okc [3] q.1) (some (wk [3] q.1, wo q o1)))
abbrev rmL_whyNot : Room := { frames := 8, cells := 0, slots := 0, locals := 125 }
set_option maxHeartbeats 4000000 in
set_option maxRecDepth 100000 in
theorem ctL_whyNot (l : Launch) (G : Gd) (hl9 : l.stackTraces = false) (o : OM) (v1 : Int32) (v2 : Int32) {k : Int32} {o9 : OM} (hf : F_L_whyNot o v1 v2 = some (k, o9)) : ∃ code, Ctw l yL_whyNot cL_whyNot 5 [(0, 10, 13, 21)] rmL_whyNot G [.ref (rA G 0 0), .int v1, .int v2, .ref (rA G 24 0)] o code k o9 := by
  obtain ⟨q, o1, h1, h2⟩ := bn_s hf
  obtain ⟨g2, h3⟩ := grd_s h2
  cases h3
  obtain ⟨code, v⟩ := q
  refine ⟨code, ctw_of (by decide) (Nat.le_of_ble_eq_true rfl) (fun p e s m below meth c ls C hT X P hl => ?_)⟩
  have C : Cx G RL cL_whyNot 5 (some .int) p s m _ meth c := C
  have hl : lv_has ls 5 [(0, .ref (rA G 0 0)), (1, .int v1), (2, .int v2), (3, .ref (rA G 24 0))] := hl
  have hle : mcx code ≤ 1 := by unfold mcx; split <;> omega
  refine r_aload_n C hl 3 rfl rfl dL_whyNot_0 ?_
  refine r_iconst C (v := 0) (by decide) dL_whyNot_1 ?_
  refine r_aload_n C hl 0 rfl rfl dL_whyNot_2 ?_
  refine r_iload_n C hl 1 rfl rfl dL_whyNot_3 ?_
  refine r_iload_n C hl 2 rfl rfl dL_whyNot_4 ?_
  refine w_call C X P cf_L_73 (rm := rmX5_whyNot) rfl [.int v1, .int v2] [.int 0, .ref (rA G 24 0)] (ctX5_whyNot l G hl9 o v1 v2 h1) ⟨Nat.le_of_ble_eq_true rfl, Nat.le_of_ble_eq_true rfl⟩ ⟨by show mcx code ≤ mcx code; omega, by show 6 * mcx code ≤ 6 * mcx code; omega⟩ rfl rfl hl.1 (Nat.le_of_ble_eq_true rfl) dL_whyNot_5 (fun H1 L1 P hc => ?_) (fun H1 L1 ce qa P hc hcell hvm hcl => ?_)
  · subst hc
    refine r_i2l C dL_whyNot_8 ?_
    refine w_last C P dL_whyNot_9 (fun H1 L1 P => ?_)
    refine r_goto C dL_whyNot_10 ?_
    refine r_iconst C (v := 0) (by decide) dL_whyNot_17 ?_
    exact w_iret C P ⟨rfl, rfl⟩ dL_whyNot_18
  · have hcs : code = 3 := by
      simp only [okc, Bool.or_eq_true, decide_eq_true_eq] at g2
      rcases g2 with g2 | g2
      · exact absurd g2 hc
      · simpa using g2
    rcases hcs with rfl
    · refine vx_catch C.2.2.2.2.1 [] { startPc := 0, endPc := 10, handlerPc := 13, catchType := 21 } [] hT (fun z hz => nomatch hz) (by decide) (by decide) (C.2.2.2.2.2.1 _ wd_675) (va_Nw.use rfl (X.1.2.2.1 (.castable "java/lang/IndexOutOfBoundsException" "java/lang/IndexOutOfBoundsException") (by decide))) hcell hvm hcl ?_
      refine r_astore C [(4, .ref qa), (0, .ref (rA G 0 0)), (1, .int v1), (2, .int v2), (3, .ref (rA G 24 0))] hl (by decide) rfl dL_whyNot_13 (fun ls hl => ?_)
      refine r_iconst C (v := 1) (by decide) dL_whyNot_15 ?_
      exact w_iret C P ⟨rfl, rfl⟩ dL_whyNot_16
theorem cf_L_76 : CallF false RL 76 yX5_overlap cX5_overlap 4 (some .int) 3 := ⟨wd_864, (by rw [if_neg (by decide)]; exact ⟨wd_593, wd_594⟩), wd_65, wd_595, by decide, by decide +kernel⟩
theorem dL_overlap_0 : Dc cL_overlap 0 (.aload 4) 2 2 := ⟨by decide +kernel, rfl⟩
theorem dL_overlap_2 : Dc cL_overlap 2 (.iconst 0) 1 3 := ⟨by decide +kernel, rfl⟩
theorem dL_overlap_3 : Dc cL_overlap 3 (.aload_n 0) 1 4 := ⟨by decide +kernel, rfl⟩
theorem dL_overlap_4 : Dc cL_overlap 4 (.iload_n 1) 1 5 := ⟨by decide +kernel, rfl⟩
theorem dL_overlap_5 : Dc cL_overlap 5 (.iload_n 2) 1 6 := ⟨by decide +kernel, rfl⟩
theorem dL_overlap_6 : Dc cL_overlap 6 (.iload_n 3) 1 7 := ⟨by decide +kernel, rfl⟩
theorem dL_overlap_7 : Dc cL_overlap 7 (.invokevirtual 76) 3 10 := ⟨by decide +kernel, rfl⟩
theorem dL_overlap_10 : Dc cL_overlap 10 (.i2l) 1 11 := ⟨by decide +kernel, rfl⟩
theorem dL_overlap_11 : Dc cL_overlap 11 (.lastore) 1 12 := ⟨by decide +kernel, rfl⟩
theorem dL_overlap_12 : Dj cL_overlap 12 (.goto 11) 3 15 (11) 23 := ⟨by decide +kernel, rfl, by decide⟩
theorem dL_overlap_15 : Dc cL_overlap 15 (.astore 5) 2 17 := ⟨by decide +kernel, rfl⟩
theorem dL_overlap_17 : Dc cL_overlap 17 (.iconst 1) 1 18 := ⟨by decide +kernel, rfl⟩
theorem dL_overlap_18 : Dc cL_overlap 18 (.ireturn) 1 19 := ⟨by decide +kernel, rfl⟩
theorem dL_overlap_19 : Dc cL_overlap 19 (.astore 5) 2 21 := ⟨by decide +kernel, rfl⟩
theorem dL_overlap_21 : Dc cL_overlap 21 (.iconst 2) 1 22 := ⟨by decide +kernel, rfl⟩
theorem dL_overlap_22 : Dc cL_overlap 22 (.ireturn) 1 23 := ⟨by decide +kernel, rfl⟩
theorem dL_overlap_23 : Dc cL_overlap 23 (.iconst 0) 1 24 := ⟨by decide +kernel, rfl⟩
theorem dL_overlap_24 : Dc cL_overlap 24 (.ireturn) 1 25 := ⟨by decide +kernel, rfl⟩
def F_L_overlap (o : OM) (v1 : Int32) (v2 : Int32) (v3 : Int32) : Option (Int32 × OM) := bn (F_X5_overlap o v1 v2 v3) (fun q o1 => grd (okc [3, 1] q.1) (some (wk [3, 1] q.1, wo q o1)))
abbrev rmL_overlap : Room := { frames := 8, cells := 0, slots := 0, locals := 126 }
set_option maxHeartbeats 4000000 in
set_option maxRecDepth 100000 in
theorem ctL_overlap (l : Launch) (G : Gd) (hl9 : l.stackTraces = false) (o : OM) (v1 : Int32) (v2 : Int32) (v3 : Int32) {k : Int32} {o9 : OM} (hf : F_L_overlap o v1 v2 v3 = some (k, o9)) : ∃ code, Ctw l yL_overlap cL_overlap 6 [(0, 12, 15, 21), (0, 12, 19, 13)] rmL_overlap G [.ref (rA G 0 0), .int v1, .int v2, .int v3, .ref (rA G 24 0)] o code k o9 := by
  obtain ⟨q, o1, h1, h2⟩ := bn_s hf
  obtain ⟨g2, h3⟩ := grd_s h2
  cases h3
  obtain ⟨code, v⟩ := q
  refine ⟨code, ctw_of (by decide) (Nat.le_of_ble_eq_true rfl) (fun p e s m below meth c ls C hT X P hl => ?_)⟩
  have C : Cx G RL cL_overlap 6 (some .int) p s m _ meth c := C
  have hl : lv_has ls 6 [(0, .ref (rA G 0 0)), (1, .int v1), (2, .int v2), (3, .int v3), (4, .ref (rA G 24 0))] := hl
  have hle : mcx code ≤ 1 := by unfold mcx; split <;> omega
  refine r_aload C hl 4 rfl dL_overlap_0 ?_
  refine r_iconst C (v := 0) (by decide) dL_overlap_2 ?_
  refine r_aload_n C hl 0 rfl rfl dL_overlap_3 ?_
  refine r_iload_n C hl 1 rfl rfl dL_overlap_4 ?_
  refine r_iload_n C hl 2 rfl rfl dL_overlap_5 ?_
  refine r_iload_n C hl 3 rfl rfl dL_overlap_6 ?_
  refine w_call C X P cf_L_76 (rm := rmX5_overlap) rfl [.int v1, .int v2, .int v3] [.int 0, .ref (rA G 24 0)] (ctX5_overlap l G hl9 o v1 v2 v3 h1) ⟨Nat.le_of_ble_eq_true rfl, Nat.le_of_ble_eq_true rfl⟩ ⟨by show mcx code ≤ mcx code; omega, by show 6 * mcx code ≤ 6 * mcx code; omega⟩ rfl rfl hl.1 (Nat.le_of_ble_eq_true rfl) dL_overlap_7 (fun H1 L1 P hc => ?_) (fun H1 L1 ce qa P hc hcell hvm hcl => ?_)
  · subst hc
    refine r_i2l C dL_overlap_10 ?_
    refine w_last C P dL_overlap_11 (fun H1 L1 P => ?_)
    refine r_goto C dL_overlap_12 ?_
    refine r_iconst C (v := 0) (by decide) dL_overlap_23 ?_
    exact w_iret C P ⟨rfl, rfl⟩ dL_overlap_24
  · have hcs : code = 3 ∨ code = 1 := by
      simp only [okc, Bool.or_eq_true, decide_eq_true_eq] at g2
      rcases g2 with g2 | g2
      · exact absurd g2 hc
      · simpa using g2
    rcases hcs with rfl | rfl
    · refine vx_catch C.2.2.2.2.1 [] { startPc := 0, endPc := 12, handlerPc := 15, catchType := 21 } [{ startPc := 0, endPc := 12, handlerPc := 19, catchType := 13 }] hT (fun z hz => nomatch hz) (by decide) (by decide) (C.2.2.2.2.2.1 _ wd_675) (va_Nw.use rfl (X.1.2.2.1 (.castable "java/lang/IndexOutOfBoundsException" "java/lang/IndexOutOfBoundsException") (by decide))) hcell hvm hcl ?_
      refine r_astore C [(5, .ref qa), (0, .ref (rA G 0 0)), (1, .int v1), (2, .int v2), (3, .int v3), (4, .ref (rA G 24 0))] hl (by decide) rfl dL_overlap_15 (fun ls hl => ?_)
      refine r_iconst C (v := 1) (by decide) dL_overlap_17 ?_
      exact w_iret C P ⟨rfl, rfl⟩ dL_overlap_18
    · refine vx_catch C.2.2.2.2.1 [{ startPc := 0, endPc := 12, handlerPc := 15, catchType := 21 }] { startPc := 0, endPc := 12, handlerPc := 19, catchType := 13 } [] hT (fun z hz => by
        simp only [List.mem_singleton] at hz
        subst hz
        exact Or.inr ⟨by decide, "java/lang/IndexOutOfBoundsException", C.2.2.2.2.2.1 _ wd_675, X.2 ("java/lang/IllegalArgumentException", "java/lang/IndexOutOfBoundsException") (by decide)⟩) (by decide) (by decide) (C.2.2.2.2.2.1 _ wd_631) (va_Nw.use rfl (X.1.2.2.1 (.castable "java/lang/IllegalArgumentException" "java/lang/IllegalArgumentException") (by decide))) hcell hvm hcl ?_
      refine r_astore C [(5, .ref qa), (0, .ref (rA G 0 0)), (1, .int v1), (2, .int v2), (3, .int v3), (4, .ref (rA G 24 0))] hl (by decide) rfl dL_overlap_19 (fun ls hl => ?_)
      refine r_iconst C (v := 2) (by decide) dL_overlap_21 ?_
      exact w_iret C P ⟨rfl, rfl⟩ dL_overlap_22
theorem cf_L_79 : CallF false RL 79 yX5_worstDegree cX5_worstDegree 7 (some .int) 2 := ⟨wd_868, (by rw [if_neg (by decide)]; exact ⟨wd_598, wd_599⟩), wd_65, wd_600, by decide, by decide +kernel⟩
theorem dL_worstDegree_0 : Dc cL_worstDegree 0 (.aload_n 3) 1 1 := ⟨by decide +kernel, rfl⟩
theorem dL_worstDegree_1 : Dc cL_worstDegree 1 (.iconst 0) 1 2 := ⟨by decide +kernel, rfl⟩
theorem dL_worstDegree_2 : Dc cL_worstDegree 2 (.aload_n 0) 1 3 := ⟨by decide +kernel, rfl⟩
theorem dL_worstDegree_3 : Dc cL_worstDegree 3 (.iload_n 1) 1 4 := ⟨by decide +kernel, rfl⟩
theorem dL_worstDegree_4 : Dc cL_worstDegree 4 (.iload_n 2) 1 5 := ⟨by decide +kernel, rfl⟩
theorem dL_worstDegree_5 : Dc cL_worstDegree 5 (.invokevirtual 79) 3 8 := ⟨by decide +kernel, rfl⟩
theorem dL_worstDegree_8 : Dc cL_worstDegree 8 (.i2l) 1 9 := ⟨by decide +kernel, rfl⟩
theorem dL_worstDegree_9 : Dc cL_worstDegree 9 (.lastore) 1 10 := ⟨by decide +kernel, rfl⟩
theorem dL_worstDegree_10 : Dj cL_worstDegree 10 (.goto 7) 3 13 (7) 17 := ⟨by decide +kernel, rfl, by decide⟩
theorem dL_worstDegree_13 : Dc cL_worstDegree 13 (.astore 4) 2 15 := ⟨by decide +kernel, rfl⟩
theorem dL_worstDegree_15 : Dc cL_worstDegree 15 (.iconst 1) 1 16 := ⟨by decide +kernel, rfl⟩
theorem dL_worstDegree_16 : Dc cL_worstDegree 16 (.ireturn) 1 17 := ⟨by decide +kernel, rfl⟩
theorem dL_worstDegree_17 : Dc cL_worstDegree 17 (.iconst 0) 1 18 := ⟨by decide +kernel, rfl⟩
theorem dL_worstDegree_18 : Dc cL_worstDegree 18 (.ireturn) 1 19 := ⟨by decide +kernel, rfl⟩
def F_L_worstDegree (o : OM) (v1 : Int32) (v2 : Int32) : Option (Int32 × OM) := bn (F_X5_worstDegree o v1 v2) (fun q o1 => grd (okc [3] q.1) (some (wk [3] q.1, wo q o1)))
abbrev rmL_worstDegree : Room := { frames := 8, cells := 0, slots := 0, locals := 129 }
set_option maxHeartbeats 4000000 in
set_option maxRecDepth 100000 in
theorem ctL_worstDegree (l : Launch) (G : Gd) (hl9 : l.stackTraces = false) (o : OM) (v1 : Int32) (v2 : Int32) {k : Int32} {o9 : OM} (hf : F_L_worstDegree o v1 v2 = some (k, o9)) : ∃ code, Ctw l yL_worstDegree cL_worstDegree 5 [(0, 10, 13, 21)] rmL_worstDegree G [.ref (rA G 0 0), .int v1, .int v2, .ref (rA G 24 0)] o code k o9 := by
  obtain ⟨q, o1, h1, h2⟩ := bn_s hf
  obtain ⟨g2, h3⟩ := grd_s h2
  cases h3
  obtain ⟨code, v⟩ := q
  refine ⟨code, ctw_of (by decide) (Nat.le_of_ble_eq_true rfl) (fun p e s m below meth c ls C hT X P hl => ?_)⟩
  have C : Cx G RL cL_worstDegree 5 (some .int) p s m _ meth c := C
  have hl : lv_has ls 5 [(0, .ref (rA G 0 0)), (1, .int v1), (2, .int v2), (3, .ref (rA G 24 0))] := hl
  have hle : mcx code ≤ 1 := by unfold mcx; split <;> omega
  refine r_aload_n C hl 3 rfl rfl dL_worstDegree_0 ?_
  refine r_iconst C (v := 0) (by decide) dL_worstDegree_1 ?_
  refine r_aload_n C hl 0 rfl rfl dL_worstDegree_2 ?_
  refine r_iload_n C hl 1 rfl rfl dL_worstDegree_3 ?_
  refine r_iload_n C hl 2 rfl rfl dL_worstDegree_4 ?_
  refine w_call C X P cf_L_79 (rm := rmX5_worstDegree) rfl [.int v1, .int v2] [.int 0, .ref (rA G 24 0)] (ctX5_worstDegree l G hl9 o v1 v2 h1) ⟨Nat.le_of_ble_eq_true rfl, Nat.le_of_ble_eq_true rfl⟩ ⟨by show mcx code ≤ mcx code; omega, by show 6 * mcx code ≤ 6 * mcx code; omega⟩ rfl rfl hl.1 (Nat.le_of_ble_eq_true rfl) dL_worstDegree_5 (fun H1 L1 P hc => ?_) (fun H1 L1 ce qa P hc hcell hvm hcl => ?_)
  · subst hc
    refine r_i2l C dL_worstDegree_8 ?_
    refine w_last C P dL_worstDegree_9 (fun H1 L1 P => ?_)
    refine r_goto C dL_worstDegree_10 ?_
    refine r_iconst C (v := 0) (by decide) dL_worstDegree_17 ?_
    exact w_iret C P ⟨rfl, rfl⟩ dL_worstDegree_18
  · have hcs : code = 3 := by
      simp only [okc, Bool.or_eq_true, decide_eq_true_eq] at g2
      rcases g2 with g2 | g2
      · exact absurd g2 hc
      · simpa using g2
    rcases hcs with rfl
    · refine vx_catch C.2.2.2.2.1 [] { startPc := 0, endPc := 10, handlerPc := 13, catchType := 21 } [] hT (fun z hz => nomatch hz) (by decide) (by decide) (C.2.2.2.2.2.1 _ wd_675) (va_Nw.use rfl (X.1.2.2.1 (.castable "java/lang/IndexOutOfBoundsException" "java/lang/IndexOutOfBoundsException") (by decide))) hcell hvm hcl ?_
      refine r_astore C [(4, .ref qa), (0, .ref (rA G 0 0)), (1, .int v1), (2, .int v2), (3, .ref (rA G 24 0))] hl (by decide) rfl dL_worstDegree_13 (fun ls hl => ?_)
      refine r_iconst C (v := 1) (by decide) dL_worstDegree_15 ?_
      exact w_iret C P ⟨rfl, rfl⟩ dL_worstDegree_16
theorem cf_L_82 : CallF false RL 82 yX5_voidIn cX5_voidIn 2 (some .int) 1 := ⟨wd_872, (by rw [if_neg (by decide)]; exact ⟨wd_602, wd_603⟩), wd_65, wd_604, by decide, by decide +kernel⟩
theorem dL_voidIn_0 : Dc cL_voidIn 0 (.aload_n 2) 1 1 := ⟨by decide +kernel, rfl⟩
theorem dL_voidIn_1 : Dc cL_voidIn 1 (.iconst 0) 1 2 := ⟨by decide +kernel, rfl⟩
theorem dL_voidIn_2 : Dc cL_voidIn 2 (.aload_n 0) 1 3 := ⟨by decide +kernel, rfl⟩
theorem dL_voidIn_3 : Dc cL_voidIn 3 (.iload_n 1) 1 4 := ⟨by decide +kernel, rfl⟩
theorem dL_voidIn_4 : Dc cL_voidIn 4 (.invokevirtual 82) 3 7 := ⟨by decide +kernel, rfl⟩
theorem dL_voidIn_7 : Dc cL_voidIn 7 (.i2l) 1 8 := ⟨by decide +kernel, rfl⟩
theorem dL_voidIn_8 : Dc cL_voidIn 8 (.lastore) 1 9 := ⟨by decide +kernel, rfl⟩
theorem dL_voidIn_9 : Dj cL_voidIn 9 (.goto 6) 3 12 (6) 15 := ⟨by decide +kernel, rfl, by decide⟩
theorem dL_voidIn_12 : Dc cL_voidIn 12 (.astore_n 3) 1 13 := ⟨by decide +kernel, rfl⟩
theorem dL_voidIn_13 : Dc cL_voidIn 13 (.iconst 1) 1 14 := ⟨by decide +kernel, rfl⟩
theorem dL_voidIn_14 : Dc cL_voidIn 14 (.ireturn) 1 15 := ⟨by decide +kernel, rfl⟩
theorem dL_voidIn_15 : Dc cL_voidIn 15 (.iconst 0) 1 16 := ⟨by decide +kernel, rfl⟩
theorem dL_voidIn_16 : Dc cL_voidIn 16 (.ireturn) 1 17 := ⟨by decide +kernel, rfl⟩
def F_L_voidIn (o : OM) (v1 : Int32) : Option (Int32 × OM) := bn (F_X5_voidIn o v1) (fun q o1 => grd (okc [3] q.1) (some (wk [3] q.1, wo q o1)))
abbrev rmL_voidIn : Room := { frames := 8, cells := 0, slots := 0, locals := 124 }
set_option maxHeartbeats 4000000 in
set_option maxRecDepth 100000 in
theorem ctL_voidIn (l : Launch) (G : Gd) (hl9 : l.stackTraces = false) (o : OM) (v1 : Int32) {k : Int32} {o9 : OM} (hf : F_L_voidIn o v1 = some (k, o9)) : ∃ code, Ctw l yL_voidIn cL_voidIn 4 [(0, 9, 12, 21)] rmL_voidIn G [.ref (rA G 0 0), .int v1, .ref (rA G 24 0)] o code k o9 := by
  obtain ⟨q, o1, h1, h2⟩ := bn_s hf
  obtain ⟨g2, h3⟩ := grd_s h2
  cases h3
  obtain ⟨code, v⟩ := q
  refine ⟨code, ctw_of (by decide) (Nat.le_of_ble_eq_true rfl) (fun p e s m below meth c ls C hT X P hl => ?_)⟩
  have C : Cx G RL cL_voidIn 4 (some .int) p s m _ meth c := C
  have hl : lv_has ls 4 [(0, .ref (rA G 0 0)), (1, .int v1), (2, .ref (rA G 24 0))] := hl
  have hle : mcx code ≤ 1 := by unfold mcx; split <;> omega
  refine r_aload_n C hl 2 rfl rfl dL_voidIn_0 ?_
  refine r_iconst C (v := 0) (by decide) dL_voidIn_1 ?_
  refine r_aload_n C hl 0 rfl rfl dL_voidIn_2 ?_
  refine r_iload_n C hl 1 rfl rfl dL_voidIn_3 ?_
  refine w_call C X P cf_L_82 (rm := rmX5_voidIn) rfl [.int v1] [.int 0, .ref (rA G 24 0)] (ctX5_voidIn l G hl9 o v1 h1) ⟨Nat.le_of_ble_eq_true rfl, Nat.le_of_ble_eq_true rfl⟩ ⟨by show mcx code ≤ mcx code; omega, by show 6 * mcx code ≤ 6 * mcx code; omega⟩ rfl rfl hl.1 (Nat.le_of_ble_eq_true rfl) dL_voidIn_4 (fun H1 L1 P hc => ?_) (fun H1 L1 ce qa P hc hcell hvm hcl => ?_)
  · subst hc
    refine r_i2l C dL_voidIn_7 ?_
    refine w_last C P dL_voidIn_8 (fun H1 L1 P => ?_)
    refine r_goto C dL_voidIn_9 ?_
    refine r_iconst C (v := 0) (by decide) dL_voidIn_15 ?_
    exact w_iret C P ⟨rfl, rfl⟩ dL_voidIn_16
  · have hcs : code = 3 := by
      simp only [okc, Bool.or_eq_true, decide_eq_true_eq] at g2
      rcases g2 with g2 | g2
      · exact absurd g2 hc
      · simpa using g2
    rcases hcs with rfl
    · refine vx_catch C.2.2.2.2.1 [] { startPc := 0, endPc := 9, handlerPc := 12, catchType := 21 } [] hT (fun z hz => nomatch hz) (by decide) (by decide) (C.2.2.2.2.2.1 _ wd_675) (va_Nw.use rfl (X.1.2.2.1 (.castable "java/lang/IndexOutOfBoundsException" "java/lang/IndexOutOfBoundsException") (by decide))) hcell hvm hcl ?_
      refine r_astore_n C [(3, .ref qa), (0, .ref (rA G 0 0)), (1, .int v1), (2, .ref (rA G 24 0))] hl (by decide) rfl rfl dL_voidIn_12 (fun ls hl => ?_)
      refine r_iconst C (v := 1) (by decide) dL_voidIn_13 ?_
      exact w_iret C P ⟨rfl, rfl⟩ dL_voidIn_14
