/-! THE CLAIM OUT OF ONE WALK OF THE LAW'S BODY. Your part is whole_start (and what it stands on); all else here is the same for every law, but numbers. -/
def R_law : String := "ThawPointsLaw"
def lw_P (b : Addr) (xs : List Int32) (args : Array Value) (s : State) : Prop := args = #[.ref b] ∧ s.IntsAt b xs ∧ xs.length ≤ 260 ∧ (Jvm.Cond.and given_1 narrow_1).before args s = true
/-- what a walk over the start with the record d0 says of its end, said of the start itself -/
theorem lw_closed {s t : State} {o : Outcome} {d0 : Drawn} {L : List Loc} {k n : Nat} (hd0 : s.drawn.sameBut d0 lw_cs) (hv : ∃ v, o = .returned v) (hW : (s.setDrawn d0).WarmedH t.vm) (hs : (s.setDrawn d0).sameButNew ({ t with vm := s.vm } : State) L k n) : State.butDraws s t lw_cs (fun t1 => Framed s o t1 L k n) := by
  have h2 : t.drawn = d0 := congrArg State.drawn hs.1
  refine ⟨⟨hv, hW, State.sameButNew.setDrawn hs s.drawn⟩, ?_, by decide⟩
  rw [h2]
  exact hd0
def lw_Q (_ : Array Value) (s : State) (o : Outcome) (t : State) : Prop := o = .returned (some (.int 1)) ∧ State.butDraws s t lw_cs (fun t1 => Framed s o t1 [] 621540 7236847)
def lw_Z (below : List Frame) (a : Array Value) (s : State) : State → Prop := fun t => ∃ o, t.status = .running ∧ Ended t below o ∧ lw_Q a s o t
/-- the law's own end, with 1 on the stack, nothing written that was there before, its room as the claim has it; d0: the record of draws at this point (at the entry s.drawn: begin with 'refine W.base ?_' and 'have hd0 := Drawn.sameBut.refl s.drawn lw_cs') -/
theorem lw_ret {p : Program} {l : Launch} {e : Env} {s : State} {m : MethodId} {below : List Frame} {meth : Method} {c : Code} {b : Nat} {d0 : Drawn} (hd0 : s.drawn.sameBut d0 lw_cs) (hx : p.tables.exec = Jvm.exec) (hb : c.code = code) (hr : meth.sig.returnType = ret) (hlocks : meth.locks = false) {pc : Nat} {H : Heap} {ls : Array Slot} (hdg : decode code pc = .ok (.ireturn, 1)) : W p l e room_1 (s.setDrawn d0) m #[Value.ref b] below meth c H [] 621540 7236847 (lw_Z below #[Value.ref b] s) (F0 m pc ls [.int 1]) := by
  intro T hT X
  obtain ⟨fs, hret, hrun, hended, hW, hframe⟩ := X.leave (v := some (.int 1)) (hlocks := hlocks) (fun h => by rw [hr] at h; cases h)
  have hmeth' : T.vm.method? m = some meth := X.method'
  refine ⟨T.setFrames fs, ?_, .returned (some (.int 1)), hrun, hended, rfl, lw_closed hd0 ⟨_, rfl⟩ hW hframe⟩
  jvm_step X.here [X.here.top, hx, hb, hdg, hmeth', hr, ret, narrow_b1]
  (try refine ⟨rfl, ?_⟩); (try refine ⟨rfl, ?_⟩)
  first | (intro acts; rw [hret _ acts rfl rfl rfl]) | rw [hret _ _ rfl rfl rfl]
  exact Steps.refl _
/-- what holds at the law's entry: the machine, the code, the tables' words (any of lw_tbl by 'hts w (by decide +kernel)'), the script of L ints xs at the cell b, what the Statement gives of the start (any of its parts by flat_of_before) -/
def lw_At (p : Program) (s : State) (m : MethodId) (meth : Method) (c : Code) (b L : Nat) (xs : Nat → Int32) : Prop :=
  p.tables.exec = Jvm.exec ∧ c.code = code ∧ meth.sig.returnType = ret ∧ c.maxLocals = 10 ∧ s.vm.findClass R_law = some m.cls ∧ (∀ w ∈ lw_tbl, w.before #[Value.ref b] s = true) ∧ va_X b L xs s s.heap ∧ b < s.heap.size ∧ meth.locks = false ∧ (Jvm.Cond.and given_1 narrow_1).before #[Value.ref b] s = true
theorem len_exact {args : Array Value} {s : State} {tm : Term} {a : Addr} {cell : Cell} {N : Nat} (h : (Term.length tm).eval args s none [] s = some (.int (Int32.ofNat N))) (hN : N < 2 ^ 31) (ht : tm.eval args s none [] s = some (.ref a)) (hc : s.heap[a]? = some cell) : cell.slots.size = N := by
  simp only [Term.eval, ht, Option.bind_eq_bind, Option.bind_some] at h
  cases hat : s.arrayAt? a with
  | none => rw [hat] at h; cases h
  | some c2 =>
    rw [hat] at h
    simp only [Option.bind_some] at h
    have hc2 := (State.arrayAt?_spec hat).1
    rw [hc] at hc2
    cases hc2
    by_cases hl : cell.slots.size < 2 ^ 31
    · rw [if_pos hl] at h
      have h1 : cell.slots.size.toInt32 = Int32.ofNat N := Value.int.inj (Option.some.inj h)
      have h2 : (Int32.ofNat cell.slots.size).toInt = (Int32.ofNat N).toInt := congrArg Int32.toInt h1
      have h3 := nI_toInt hl
      have h4 := nI_toInt hN
      unfold nI at h3 h4
      omega
    · rw [if_neg hl] at h
      cases h
/-- a constant row, from what the Statement gives of it -/
theorem st_row {args : Array Value} {s : State} {n : String} {N : Nat} {f : Nat → Int32} {cI : ClassId} (hN : N < 2 ^ 31) (hl : (Cond.laysStatic RX5 n "[I").before args s = true) (hini : (Cond.initialized RX5).before args s = true) (hex : (Cond.exactly (.static RX5 n "[I") "[I").before args s = true) (harr : (Cond.arrayOf (.static RX5 n "[I") .int).before args s = true) (hlen : (Cond.eq (.length (.static RX5 n "[I")) (.int (Int32.ofNat N))).before args s = true) (hel : ∀ j : Nat, j < N → (Cond.eq (.elem (.static RX5 n "[I") (.int (Int32.ofNat j))) (.int (f j))).before args s = true) (hI : s.vm.findClass "[I" = some cI) :
    ∃ (a : Nat) (cell : Cell), va_Z RX5 n "[I" (.ref a) (fun q : Nat => s.heap.size ≤ q) s s.heap ∧ s.heap[a]? = some cell ∧ s.isArrayOf cell .int ∧ cell.cls = cI ∧ cell.vm ≠ .unknown ∧ (∀ k, cell.vm ≠ .statics k) ∧ cell.slots.size = N ∧ ∀ j : Nat, j < N → cell.slots[j]? = some (.int (f j)) := by
  obtain ⟨a, c, cell, k, h1, h2, h3, h4, h5, h6, -⟩ := Cond.exactly_spec hex
  have hA : ∀ a : Nat, a < s.heap.size → ¬ (fun q : Nat => s.heap.size ≤ q) a := fun a h => Nat.not_le.mpr h
  obtain ⟨hof, hun⟩ := Cond.arrayOf_spec harr h1 h3
  have hL := va_eqt hlen
  have hsz := len_exact hL hN h1 h3
  refine ⟨a, cell, va_Zof hl hini h1 hA, h3, hof, by rw [h6]; exact Option.some.inj (h2.symm.trans hI), hun, hof.1, hsz, fun j hj => ?_⟩
  obtain ⟨a2, i, c2, g1, g2, g3, g4, g5⟩ := Term.elem_spec (va_eqt (hel j hj))
  cases h1.symm.trans g1
  obtain ⟨gc, -⟩ := State.arrayAt?_spec g3
  cases h3.symm.trans gc
  have hi : i = Int32.ofNat j := by
    have e : (Term.int (Int32.ofNat j)).eval args s none [] s = some (.int (Int32.ofNat j)) := rfl
    cases g2.symm.trans e
    rfl
  have hc : i.toNatClampNeg = j := by rw [hi]; exact Int32.toNatClampNeg_ofNat_of_lt (Nat.lt_trans hj hN)
  rw [hc] at g5
  exact g5
theorem arr_of {args : Array Value} {s : State} {ty : FieldType} (h : (Cond.arrayClass ty).before args s = true) : ∃ c, s.vm.findClass ("[" ++ ty.toString) = some c ∧ ArrOfT s c ty := by
  obtain ⟨c, k, comp, h1, h2, h3⟩ := Cond.arrayClass_spec h
  exact ⟨c, h1, fun n z => ⟨(fun k h => by cases h), k, h2, comp, h3⟩⟩
theorem arrO_of {args : Array Value} {s : State} {C : String} (h : (Cond.arrayOver (.object C)).before args s = true) : ∃ c, va_RA s c (.object C) ∧ ArrOfT s c (.object C) := by
  obtain ⟨comp, c, k, h1, h2, h3, h4, h5⟩ := Cond.arrayOver_spec h
  exact ⟨c, ⟨k, comp, h3, h4, h1, h5⟩, fun n z => ⟨(fun k h => by cases h), k, h3, comp, h4⟩⟩
theorem dw_0 : Dc cL_law 0 (.new 9) 3 3 := ⟨by decide +kernel, rfl⟩
theorem dw_3 : Dc cL_law 3 (.dup) 1 4 := ⟨by decide +kernel, rfl⟩
theorem dw_4 : Dc cL_law 4 (.invokespecial 91) 3 7 := ⟨by decide +kernel, rfl⟩
theorem dw_7 : Dc cL_law 7 (.astore_n 1) 1 8 := ⟨by decide +kernel, rfl⟩
theorem dw_8 : Dc cL_law 8 (.new 9) 3 11 := ⟨by decide +kernel, rfl⟩
theorem dw_11 : Dc cL_law 11 (.dup) 1 12 := ⟨by decide +kernel, rfl⟩
theorem dw_12 : Dc cL_law 12 (.invokespecial 91) 3 15 := ⟨by decide +kernel, rfl⟩
theorem dw_15 : Dc cL_law 15 (.astore_n 2) 1 16 := ⟨by decide +kernel, rfl⟩
theorem dw_16 : Dc cL_law 16 (.iconst 1) 1 17 := ⟨by decide +kernel, rfl⟩
theorem dw_17 : Dc cL_law 17 (.newarray .int) 2 19 := ⟨by decide +kernel, rfl⟩
theorem dw_19 : Dc cL_law 19 (.astore_n 3) 1 20 := ⟨by decide +kernel, rfl⟩
theorem dw_20 : Dc cL_law 20 (.iconst 0) 1 21 := ⟨by decide +kernel, rfl⟩
theorem dw_21 : Dc cL_law 21 (.istore 4) 2 23 := ⟨by decide +kernel, rfl⟩
theorem dw_310 : Dc cL_law 310 (.aload_n 1) 1 311 := ⟨by decide +kernel, rfl⟩
theorem dw_311 : Dc cL_law 311 (.invokestatic 104) 3 314 := ⟨by decide +kernel, rfl⟩
theorem dw_314 : Dc cL_law 314 (.ireturn) 1 315 := ⟨by decide +kernel, rfl⟩
set_option maxHeartbeats 8000000 in
set_option maxRecDepth 100000 in
/-- what the start gives -/
theorem start_facts {s : State} {b : Nat} (hts : ∀ w ∈ lw_tbl, w.before #[Value.ref b] s = true) (hgv : (Jvm.Cond.and given_1 narrow_1).before #[Value.ref b] s = true) : ∃ G : Gd, G.1 = s.heap.size ∧ aN G = 470 ∧ va_K (gD G) vwCl (gT G) s ∧ X2 G s ∧ XN G s := by
  have hs := flat_of_before _ hgv
  have hw := wt_tbl hts
  obtain ⟨c0, i0, hk0⟩ := u_known (C := RX0) (T := TX0) (N := 3) (n := 3) hw in_X0 (hw _ wd_167)
  obtain ⟨c1, i1, hk1⟩ := u_known (C := RX1) (T := TX1) (N := 8) (n := 8) hw in_X1 (hw _ wd_57)
  obtain ⟨c2, i2, hk2⟩ := u_known (C := RX2) (T := TX2) (N := 8) (n := 8) hw in_X2 (hw _ wd_33)
  obtain ⟨c3, i3, hk3⟩ := u_known (C := RX3) (T := TX3) (N := 8) (n := 8) hw in_X3 (hw _ wd_51)
  obtain ⟨c4, i4, hk4⟩ := u_known (C := RX4) (T := TX4) (N := 6) (n := 6) hw in_X4 (hw _ wd_187)
  obtain ⟨c5, i5, hk5⟩ := u_known (C := RX5) (T := TX5) (N := 5) (n := 5) hw in_X5 (hw _ wd_25)
  obtain ⟨aI, naI, haI⟩ := arr_of (hw _ wd_96)
  obtain ⟨aC, naC, haC⟩ := arr_of (hw _ wd_207)
  obtain ⟨aS, naS, haS⟩ := arrO_of (C := "ThawPoints$State") (hts _ (List.mem_of_getElem? (i := 173) (by decide +kernel)))
  obtain ⟨aT, naT, haT⟩ := arrO_of (C := "ThawPoints$Thermometer") (hts _ (List.mem_of_getElem? (i := 50) (by decide +kernel)))
  obtain ⟨q0, cl0, z0, y0, x0, w0, v0, u0, t0, r0⟩ := st_row (n := "FIRST_BATHS") (N := 4) (f := fFB) (by decide) (hts _ (List.mem_of_getElem? (i := 39) (by decide +kernel))) (hw _ wd_10) (hs _ (by decide +kernel)) (hs _ (by decide +kernel)) (hs _ (by decide +kernel)) (fun j hj => by
      have h : j = 0 ∨ j = 1 ∨ j = 2 ∨ j = 3 := by omega
      rcases h with rfl | rfl | rfl | rfl <;> exact hs _ (by decide +kernel)) naI
  obtain ⟨q1, cl1, z1, y1, x1, w1, v1, u1, t1, r1⟩ := st_row (n := "FIRST_SETTINGS") (N := 7) (f := fFS) (by decide) (hts _ (List.mem_of_getElem? (i := 48) (by decide +kernel))) (hw _ wd_10) (hs _ (by decide +kernel)) (hs _ (by decide +kernel)) (hs _ (by decide +kernel)) (fun j hj => by
      have h : j = 0 ∨ j = 1 ∨ j = 2 ∨ j = 3 ∨ j = 4 ∨ j = 5 ∨ j = 6 := by omega
      rcases h with rfl | rfl | rfl | rfl | rfl | rfl | rfl <;> exact hs _ (by decide +kernel)) naI
  obtain ⟨q2, cl2, z2, y2, x2, w2, v2, u2, t2, r2⟩ := st_row (n := "SETTING_LIMITS") (N := 7) (f := fSL) (by decide) (hts _ (List.mem_of_getElem? (i := 470) (by decide +kernel))) (hw _ wd_10) (hs _ (by decide +kernel)) (hs _ (by decide +kernel)) (hs _ (by decide +kernel)) (fun j hj => by
      have h : j = 0 ∨ j = 1 ∨ j = 2 ∨ j = 3 ∨ j = 4 ∨ j = 5 ∨ j = 6 := by omega
      rcases h with rfl | rfl | rfl | rfl | rfl | rfl | rfl <;> exact hs _ (by decide +kernel)) naI
  let dC : Nat → ClassId := fun k => if k = 0 then c0 else if k = 1 then c1 else if k = 2 then c2 else if k = 3 then c3 else if k = 4 then c4 else c5
  let dI : Nat → Nat → Nat := fun k => if k = 0 then i0 else if k = 1 then i1 else if k = 2 then i2 else if k = 3 then i3 else if k = 4 then i4 else i5
  have hA : ∀ a : Nat, a < s.heap.size → ¬ (fun q : Nat => s.heap.size ≤ q) a := fun a h => Nat.not_le.mpr h
  refine ⟨(s.heap.size, dC, dI, aI, aC, aI, aS, aT, q2, 470), rfl, rfl, ⟨fun k q hq => ?_, fun k q hq => ?_⟩, ⟨⟨?_, ?_, ?_, ?_, z2, ⟨cl2, y2, x2, v2, t2, r2⟩, (Array.getElem?_eq_some_iff.mp y2).1, hA _ (Array.getElem?_eq_some_iff.mp y2).1⟩, ?_⟩, ⟨⟨q0, z0, hA _ (Array.getElem?_eq_some_iff.mp y0).1, cl0, y0, w0, v0, u0, t0, r0⟩, ⟨q1, z1, hA _ (Array.getElem?_eq_some_iff.mp y1).1, cl1, y1, w1, v1, u1, t1, r1⟩, ?_, ?_, ?_, ?_, ?_⟩⟩
  · match k, hq with
    | 0, hq => cases hq; exact hk0
    | 1, hq => cases hq; exact hk1
    | 2, hq => cases hq; exact hk2
    | 3, hq => cases hq; exact hk3
    | 4, hq => cases hq; exact hk4
    | 5, hq => cases hq; exact hk5
    | k + 6, hq => simp [vwCl] at hq
  · match k, hq with
    | 0, hq => cases hq; exact ⟨haI, naI⟩
    | 1, hq => cases hq; exact ⟨haC, naC⟩
    | 2, hq => cases hq; exact ⟨haI, naI⟩
    | 3, hq => cases hq; exact ⟨haS, naS⟩
    | 4, hq => cases hq; exact ⟨haT, naT⟩
    | k + 5, hq => simp [gT] at hq
  · exact vx_Zqof (hts _ (List.mem_of_getElem? (i := 254) (by decide +kernel))) (hw _ wd_16) (hs _ (by decide +kernel)) hA
  · exact vx_Zqof (hts _ (List.mem_of_getElem? (i := 256) (by decide +kernel))) (hw _ wd_16) (hs _ (by decide +kernel)) hA
  · intro w hw
    simp only [NB, List.mem_cons, List.not_mem_nil, or_false] at hw
    rcases hw with rfl | rfl | rfl | rfl | rfl | rfl
    · exact va_Nw.of rfl (hts _ (List.mem_of_getElem? (i := 324) (by decide +kernel)))
    · exact va_Nw.of rfl (hts _ (List.mem_of_getElem? (i := 229) (by decide +kernel)))
    · exact va_Nw.of rfl (hts _ (List.mem_of_getElem? (i := 410) (by decide +kernel)))
    · exact va_Nw.of rfl (hts _ (List.mem_of_getElem? (i := 231) (by decide +kernel)))
    · exact va_Nw.of rfl (hts _ (List.mem_of_getElem? (i := 233) (by decide +kernel)))
    · exact va_Nw.of rfl (hts _ (List.mem_of_getElem? (i := 235) (by decide +kernel)))
  · intro q hq
    simp only [SL, List.mem_cons, List.not_mem_nil, or_false] at hq
    rcases hq with rfl | rfl | rfl | rfl | rfl | rfl | rfl | rfl | rfl | rfl | rfl | rfl | rfl | rfl | rfl | rfl | rfl | rfl
    · obtain ⟨sa, -, -, -, h1, -⟩ := Cond.exactly_spec (hs (.exactly (.string "ThawPoints" 181) "java/lang/String") (by decide +kernel))
      exact ⟨sa, vk_R.of (hts _ (List.mem_of_getElem? (i := 268) (by decide +kernel))) h1⟩
    · obtain ⟨sa, -, -, -, h1, -⟩ := Cond.exactly_spec (hs (.exactly (.string "ThawPoints" 248) "java/lang/String") (by decide +kernel))
      exact ⟨sa, vk_R.of (hts _ (List.mem_of_getElem? (i := 331) (by decide +kernel))) h1⟩
    · obtain ⟨sa, -, -, -, h1, -⟩ := Cond.exactly_spec (hs (.exactly (.string "ThawPoints" 39) "java/lang/String") (by decide +kernel))
      exact ⟨sa, vk_R.of (hts _ (List.mem_of_getElem? (i := 373) (by decide +kernel))) h1⟩
    · obtain ⟨sa, -, -, -, h1, -⟩ := Cond.exactly_spec (hs (.exactly (.string "ThawPoints" 50) "java/lang/String") (by decide +kernel))
      exact ⟨sa, vk_R.of (hts _ (List.mem_of_getElem? (i := 378) (by decide +kernel))) h1⟩
    · obtain ⟨sa, -, -, -, h1, -⟩ := Cond.exactly_spec (hs (.exactly (.string "ThawPoints" 306) "java/lang/String") (by decide +kernel))
      exact ⟨sa, vk_R.of (hts _ (List.mem_of_getElem? (i := 417) (by decide +kernel))) h1⟩
    · obtain ⟨sa, -, -, -, h1, -⟩ := Cond.exactly_spec (hs (.exactly (.string "ThawPoints" 308) "java/lang/String") (by decide +kernel))
      exact ⟨sa, vk_R.of (hts _ (List.mem_of_getElem? (i := 436) (by decide +kernel))) h1⟩
    · obtain ⟨sa, -, -, -, h1, -⟩ := Cond.exactly_spec (hs (.exactly (.string "ThawPoints" 310) "java/lang/String") (by decide +kernel))
      exact ⟨sa, vk_R.of (hts _ (List.mem_of_getElem? (i := 440) (by decide +kernel))) h1⟩
    · obtain ⟨sa, -, -, -, h1, -⟩ := Cond.exactly_spec (hs (.exactly (.string "ThawPoints" 95) "java/lang/String") (by decide +kernel))
      exact ⟨sa, vk_R.of (hts _ (List.mem_of_getElem? (i := 445) (by decide +kernel))) h1⟩
    · obtain ⟨sa, -, -, -, h1, -⟩ := Cond.exactly_spec (hs (.exactly (.string "ThawPoints" 105) "java/lang/String") (by decide +kernel))
      exact ⟨sa, vk_R.of (hts _ (List.mem_of_getElem? (i := 468) (by decide +kernel))) h1⟩
    · obtain ⟨sa, -, -, -, h1, -⟩ := Cond.exactly_spec (hs (.exactly (.string "ThawPoints" 111) "java/lang/String") (by decide +kernel))
      exact ⟨sa, vk_R.of (hts _ (List.mem_of_getElem? (i := 471) (by decide +kernel))) h1⟩
    · obtain ⟨sa, -, -, -, h1, -⟩ := Cond.exactly_spec (hs (.exactly (.string "ThawPoints" 120) "java/lang/String") (by decide +kernel))
      exact ⟨sa, vk_R.of (hts _ (List.mem_of_getElem? (i := 492) (by decide +kernel))) h1⟩
    · obtain ⟨sa, -, -, -, h1, -⟩ := Cond.exactly_spec (hs (.exactly (.string "ThawPoints" 134) "java/lang/String") (by decide +kernel))
      exact ⟨sa, vk_R.of (hts _ (List.mem_of_getElem? (i := 557) (by decide +kernel))) h1⟩
    · obtain ⟨sa, -, -, -, h1, -⟩ := Cond.exactly_spec (hs (.exactly (.string "ThawPoints" 178) "java/lang/String") (by decide +kernel))
      exact ⟨sa, vk_R.of (hts _ (List.mem_of_getElem? (i := 569) (by decide +kernel))) h1⟩
    · obtain ⟨sa, -, -, -, h1, -⟩ := Cond.exactly_spec (hs (.exactly (.string "ThawPoints" 228) "java/lang/String") (by decide +kernel))
      exact ⟨sa, vk_R.of (hts _ (List.mem_of_getElem? (i := 586) (by decide +kernel))) h1⟩
    · obtain ⟨sa, -, -, -, h1, -⟩ := Cond.exactly_spec (hs (.exactly (.string "ThawPoints" 230) "java/lang/String") (by decide +kernel))
      exact ⟨sa, vk_R.of (hts _ (List.mem_of_getElem? (i := 591) (by decide +kernel))) h1⟩
    · obtain ⟨sa, -, -, -, h1, -⟩ := Cond.exactly_spec (hs (.exactly (.string "ThawPoints" 232) "java/lang/String") (by decide +kernel))
      exact ⟨sa, vk_R.of (hts _ (List.mem_of_getElem? (i := 592) (by decide +kernel))) h1⟩
    · obtain ⟨sa, -, -, -, h1, -⟩ := Cond.exactly_spec (hs (.exactly (.string "ThawPoints" 198) "java/lang/String") (by decide +kernel))
      exact ⟨sa, vk_R.of (hts _ (List.mem_of_getElem? (i := 600) (by decide +kernel))) h1⟩
    · obtain ⟨sa, -, -, -, h1, -⟩ := Cond.exactly_spec (hs (.exactly (.string "ThawPoints" 200) "java/lang/String") (by decide +kernel))
      exact ⟨sa, vk_R.of (hts _ (List.mem_of_getElem? (i := 601) (by decide +kernel))) h1⟩
  · intro q hq
    simp only [NCW, List.mem_cons, List.not_mem_nil, or_false] at hq
    rcases hq with rfl | rfl | rfl | rfl | rfl | rfl <;> exact va_Nc.of (hs _ (by decide +kernel))
  · intro q hq
    simp only [NF, List.mem_cons, List.not_mem_nil, or_false] at hq
    rcases hq with rfl | rfl
    · exact va_Nw.of rfl (hts _ (List.mem_of_getElem? (i := 38) (by decide +kernel)))
    · exact va_Nw.of rfl (hts _ (List.mem_of_getElem? (i := 47) (by decide +kernel)))
  · intro q hq
    simp only [NM, List.mem_cons, List.not_mem_nil, or_false] at hq
    rcases hq with rfl | rfl | rfl
    · exact va_Nw.of rfl (hts _ (List.mem_of_getElem? (i := 52) (by decide +kernel)))
    · exact va_Nw.of rfl (hts _ (List.mem_of_getElem? (i := 58) (by decide +kernel)))
    · exact va_Nw.of rfl (hts _ (List.mem_of_getElem? (i := 188) (by decide +kernel)))
  · exact va_Nw.of rfl (hts _ (List.mem_of_getElem? (i := 45) (by decide +kernel)))
  · exact va_AO.of (A := #[Value.ref b]) (hts _ (List.mem_of_getElem? (i := 50) (by decide +kernel)))
  · exact va_AO.of (A := #[Value.ref b]) (hts _ (List.mem_of_getElem? (i := 173) (by decide +kernel)))
set_option maxHeartbeats 8000000 in
set_option maxRecDepth 100000 in
theorem whole_start {p : Program} {e : Env} {s : State} {m : MethodId} {below : List Frame} {meth : Method} {c : Code} (l : Launch) (hflags : l.flags = flags0) {b L : Nat} {xs : Nat → Int32} (hL : L ≤ 260) (C0 : lw_At p s m meth c b L xs) : W p l e room_1 s m #[Value.ref b] below meth c s.heap [] 0 0 (lw_Z below #[Value.ref b] s) (entryFrame m ([Value.ref b] : List Value).toArray 10) := by
  obtain ⟨hx, hb, hr, hml, hown, hts, hX, hbl, hlocks, hgv⟩ := id C0
  obtain ⟨G, hG, hN, hK, XWs, XNs⟩ := start_facts hts hgv
  have hl9 : l.stackTraces = false := by
    unfold Launch.stackTraces
    rw [hflags]
    decide
  have C : Cx G RL cL_law 10 (some .boolean) p s m #[Value.ref b] meth c := ⟨hx, hb, hml, hr, hown, wt_tbl hts, hK, hlocks, by omega⟩
  have hbA : ¬ frN G b := by show ¬ G.1 ≤ b; omega
  have hl := lv_entry ([.ref b]) (n := 10) (Nat.le_of_ble_eq_true rfl)
  rw [lg_entry_eq]
  generalize (lg_sl ([.ref b]) ++ List.replicate (10 - (lg_sl ([.ref b])).length) Slot.unset).toArray = ls at hl ⊢
  have hl : lv_has ls 10 [(0, .ref b)] := hl
  have P : Hn G (fun _ => arI G 0) 0 s s.heap [] := ⟨fun k q h => by simp [WSn] at h, by omega, va_S.rf⟩
  refine n_new C P (T := TX5) (C' := RX5) (N := 5) (ci := 5) in_X5 tyX5 tyX5_ok wd_24 wd_25 wd_10 rfl ([.null, .null, .null, .null, .int 0]) (fun j hj => by rcases (show j = 0 ∨ j = 1 ∨ j = 2 ∨ j = 3 ∨ j = 4 by omega) with rfl | rfl | rfl | rfl | rfl <;> rfl) ⟨Nat.le_of_ble_eq_true rfl, Nat.le_of_ble_eq_true rfl⟩ dw_0 (fun H P => ?_)
  refine r_dup C rfl dw_3 ?_
  refine n_ctor C XNs P (rm := rmX5_init) (a := 0) wd_26 wd_27 wd_10 wd_28 rfl (by decide +kernel) (ctX5_init l G _ 0 fu_s) ⟨Nat.le_of_ble_eq_true rfl, Nat.le_of_ble_eq_true rfl⟩ ⟨Nat.le_of_ble_eq_true rfl, Nat.le_of_ble_eq_true rfl⟩ hl.1 (Nat.le_of_ble_eq_true rfl) dw_4 (fun H Q P => ?_)
  have P : Hn G _ 470 s H Q := P
  refine r_astore_n C [(1, .ref (rA G 0 0)), (0, .ref b)] hl (by decide) rfl rfl dw_7 (fun ls hl => ?_)
  refine n_new C P (T := TX5) (C' := RX5) (N := 5) (ci := 5) in_X5 tyX5 tyX5_ok wd_24 wd_25 wd_10 rfl ([.null, .null, .null, .null, .int 0]) (fun j hj => by rcases (show j = 0 ∨ j = 1 ∨ j = 2 ∨ j = 3 ∨ j = 4 by omega) with rfl | rfl | rfl | rfl | rfl <;> rfl) ⟨Nat.le_of_ble_eq_true rfl, Nat.le_of_ble_eq_true rfl⟩ dw_8 (fun H P => ?_)
  refine r_dup C rfl dw_11 ?_
  refine n_ctor C XNs P (rm := rmX5_init) (a := 470) wd_26 wd_27 wd_10 wd_28 rfl (by decide +kernel) (ctX5_init l G _ 470 fu_s) ⟨Nat.le_of_ble_eq_true rfl, Nat.le_of_ble_eq_true rfl⟩ ⟨Nat.le_of_ble_eq_true rfl, Nat.le_of_ble_eq_true rfl⟩ hl.1 (Nat.le_of_ble_eq_true rfl) dw_12 (fun H Q P => ?_)
  have P : Hn G _ 940 s H Q := P
  refine r_astore_n C [(2, .ref (rA (pG G) 0 0)), (1, .ref (rA G 0 0)), (0, .ref b)] hl (by decide) rfl rfl dw_15 (fun ls hl => ?_)
  refine r_iconst C (v := 1) (by decide) dw_16 ?_
  refine n_newa C P (ty := .int) (cA := aI G) (t0 := 0) rfl wd_96 rfl (fun _ h => nomatch h) (a0 := (1, .inl fun _ => 0)) (N := 1) (fun _ => rfl) ⟨by decide, by decide, by decide⟩ ⟨Nat.le_of_ble_eq_true rfl, Nat.le_of_ble_eq_true rfl⟩ dw_17 (fun H P => ?_)
  have e9 : G.1 + 940 = rA G 24 0 := by
    show _ = G.1 + 470 + aN G
    rw [hN]
  rw [e9]
  refine r_astore_n C [(3, .ref (rA G 24 0)), (2, .ref (rA (pG G) 0 0)), (1, .ref (rA G 0 0)), (0, .ref b)] hl (by decide) rfl rfl dw_19 (fun ls hl => ?_)
  refine r_iconst C (v := 0) (by decide) dw_20 ?_
  refine r_istore C [(4, .int 0), (3, .ref (rA G 24 0)), (2, .ref (rA (pG G) 0 0)), (1, .ref (rA G 0 0)), (0, .ref b)] hl (by decide) rfl dw_21 (fun ls hl => ?_)
  have P : Hn G (f9 G) 941 s H _ := P.to (fun j hj => f9_w G _ _ j hj)
  refine lL_law C XWs hl9 hX hbl hbA (fun H L ls cl sl hS hcl hsl => ?_) FU (o0, o0) 0 _ _ _ _ _ (Nat.le_of_ble_eq_true rfl) (Nat.le_of_ble_eq_true rfl) ⟨f9_1 hN P.1, f9_2 P.1, P.2.2, hN⟩ (lv_sub hl [4, 3, 2, 1, 0] rfl) (law_pure xs L hL)
  refine va_forget (fun q hq => by have h : G.1 ≤ q.base := hS.2.2 q hq; omega) ?_
  refine W.widen hcl hsl ?_
  exact lw_ret (d0 := s.drawn) (Drawn.sameBut.refl s.drawn lw_cs) hx hb hr hlocks dw_314.1
