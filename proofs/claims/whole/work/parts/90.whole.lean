/-! THE CLAIM OUT OF ONE WALK OF THE LAW'S BODY. Your part is whole_start (and what it stands on); all else here is the same for every law, but numbers. -/
def R_law : String := "ThawPointsLaw"
def lw_P (b : Addr) (xs : List Int32) (args : Array Value) (s : State) : Prop := args = #[.ref b] ∧ s.IntsAt b xs ∧ xs.length ≤ 2048 ∧ (Jvm.Cond.and given_1 narrow_1).before args s = true
/-- what a walk over the start with the record d0 says of its end, said of the start itself -/
theorem lw_closed {s t : State} {o : Outcome} {d0 : Drawn} {L : List Loc} {k n : Nat} (hd0 : s.drawn.sameBut d0 lw_cs) (hv : ∃ v, o = .returned v) (hW : (s.setDrawn d0).WarmedH t.vm) (hs : (s.setDrawn d0).sameButNew ({ t with vm := s.vm } : State) L k n) : State.butDraws s t lw_cs (fun t1 => Framed s o t1 L k n) := by
  have h2 : t.drawn = d0 := congrArg State.drawn hs.1
  refine ⟨⟨hv, hW, State.sameButNew.setDrawn hs s.drawn⟩, ?_, by decide⟩
  rw [h2]
  exact hd0
def lw_Q (_ : Array Value) (s : State) (o : Outcome) (t : State) : Prop := o = .returned (some (.int 1)) ∧ State.butDraws s t lw_cs (fun t1 => Framed s o t1 [] 601024 7293034)
def lw_Z (below : List Frame) (a : Array Value) (s : State) : State → Prop := fun t => ∃ o, t.status = .running ∧ Ended t below o ∧ lw_Q a s o t
/-- the law's own end, with 1 on the stack, nothing written that was there before, its room as the claim has it; d0: the record of draws at this point (at the entry s.drawn: begin with 'refine W.base ?_' and 'have hd0 := Drawn.sameBut.refl s.drawn lw_cs') -/
theorem lw_ret {p : Program} {l : Launch} {e : Env} {s : State} {m : MethodId} {below : List Frame} {meth : Method} {c : Code} {b : Nat} {d0 : Drawn} (hd0 : s.drawn.sameBut d0 lw_cs) (hx : p.tables.exec = Jvm.exec) (hb : c.code = code) (hr : meth.sig.returnType = ret) (hlocks : meth.locks = false) {pc : Nat} {H : Heap} {ls : Array Slot} (hdg : decode code pc = .ok (.ireturn, 1)) : W p l e room_1 (s.setDrawn d0) m #[Value.ref b] below meth c H [] 601024 7293034 (lw_Z below #[Value.ref b] s) (F0 m pc ls [.int 1]) := by
  intro T hT X
  obtain ⟨fs, hret, hrun, hended, hW, hframe⟩ := X.leave (v := some (.int 1)) (hlocks := hlocks) (fun h => by rw [hr] at h; cases h)
  have hmeth' : T.vm.method? m = some meth := X.method'
  refine ⟨T.setFrames fs, ?_, .returned (some (.int 1)), hrun, hended, rfl, lw_closed hd0 ⟨_, rfl⟩ hW hframe⟩
  jvm_step X.here [X.here.top, hx, hb, hdg, hmeth', hr, ret, narrow_b1]
  (try refine ⟨rfl, ?_⟩); (try refine ⟨rfl, ?_⟩)
  first | (intro acts; rw [hret _ acts rfl rfl rfl]) | rw [hret _ _ rfl rfl rfl]
  exact Steps.refl _
/-- what holds at the law's entry: the machine, the code, the tables' words (any of lw_tbl by 'hts w (by decide +kernel)'), the script of L ints xs at the cell b, what the Statement gives of the start (any of its parts by flat_of_before) -/
def lw_At (p : Program) (s : State) (m : MethodId) (meth : Method) (c : Code) (b L : Nat) (xs : Nat → Int32) : Prop :=
  p.tables.exec = Jvm.exec ∧ c.code = code ∧ meth.sig.returnType = ret ∧ c.maxLocals = 9 ∧ s.vm.findClass R_law = some m.cls ∧ (∀ w ∈ lw_tbl, w.before #[Value.ref b] s = true) ∧ va_X b L xs s s.heap ∧ b < s.heap.size ∧ meth.locks = false ∧ (Jvm.Cond.and given_1 narrow_1).before #[Value.ref b] s = true
theorem len_exact {args : Array Value} {s : State} {tm : Term} {a : Addr} {cell : Cell} {N : Nat} (h : (Term.length tm).eval args s none [] s = some (.int (Int32.ofNat N))) (hN : N < 2 ^ 31) (ht : tm.eval args s none [] s = some (.ref a)) (hc : s.heap[a]? = some cell) : cell.slots.size = N := by
  simp only [Term.eval, ht, Option.bind_eq_bind, Option.bind_some] at h
  cases hat : s.arrayAt? a with
  | none => rw [hat] at h; cases h
  | some c2 =>
    rw [hat] at h
    simp only [Option.bind_some] at h
    have hc2 := (State.arrayAt?_spec hat).1
    rw [hc] at hc2
    cases hc2
    by_cases hl : cell.slots.size < 2 ^ 31
    · rw [if_pos hl] at h
      have h1 : cell.slots.size.toInt32 = Int32.ofNat N := Value.int.inj (Option.some.inj h)
      have h2 : (Int32.ofNat cell.slots.size).toInt = (Int32.ofNat N).toInt := congrArg Int32.toInt h1
      have h3 := nI_toInt hl
      have h4 := nI_toInt hN
      unfold nI at h3 h4
      omega
    · rw [if_neg hl] at h
      cases h
/-- a constant row, from what the Statement gives of it -/
theorem st_row {args : Array Value} {s : State} {n : String} {N : Nat} {f : Nat → Int32} {cI : ClassId} (hN : N < 2 ^ 31) (hl : (Cond.laysStatic RX5 n "[I").before args s = true) (hini : (Cond.initialized RX5).before args s = true) (hex : (Cond.exactly (.static RX5 n "[I") "[I").before args s = true) (harr : (Cond.arrayOf (.static RX5 n "[I") .int).before args s = true) (hlen : (Cond.eq (.length (.static RX5 n "[I")) (.int (Int32.ofNat N))).before args s = true) (hel : ∀ j : Nat, j < N → (Cond.eq (.elem (.static RX5 n "[I") (.int (Int32.ofNat j))) (.int (f j))).before args s = true) (hI : s.vm.findClass "[I" = some cI) :
    ∃ (a : Nat) (cell : Cell), va_Z RX5 n "[I" (.ref a) (fun q : Nat => s.heap.size ≤ q) s s.heap ∧ s.heap[a]? = some cell ∧ s.isArrayOf cell .int ∧ cell.cls = cI ∧ cell.vm ≠ .unknown ∧ (∀ k, cell.vm ≠ .statics k) ∧ cell.slots.size = N ∧ ∀ j : Nat, j < N → cell.slots[j]? = some (.int (f j)) := by
  obtain ⟨a, c, cell, k, h1, h2, h3, h4, h5, h6, -⟩ := Cond.exactly_spec hex
  have hA : ∀ a : Nat, a < s.heap.size → ¬ (fun q : Nat => s.heap.size ≤ q) a := fun a h => Nat.not_le.mpr h
  obtain ⟨hof, hun⟩ := Cond.arrayOf_spec harr h1 h3
  have hL := va_eqt hlen
  have hsz := len_exact hL hN h1 h3
  refine ⟨a, cell, va_Zof hl hini h1 hA, h3, hof, by rw [h6]; exact Option.some.inj (h2.symm.trans hI), hun, hof.1, hsz, fun j hj => ?_⟩
  obtain ⟨a2, i, c2, g1, g2, g3, g4, g5⟩ := Term.elem_spec (va_eqt (hel j hj))
  cases h1.symm.trans g1
  obtain ⟨gc, -⟩ := State.arrayAt?_spec g3
  cases h3.symm.trans gc
  have hi : i = Int32.ofNat j := by
    have e : (Term.int (Int32.ofNat j)).eval args s none [] s = some (.int (Int32.ofNat j)) := rfl
    cases g2.symm.trans e
    rfl
  have hc : i.toNatClampNeg = j := by rw [hi]; exact Int32.toNatClampNeg_ofNat_of_lt (Nat.lt_trans hj hN)
  rw [hc] at g5
  exact g5
theorem arr_of {args : Array Value} {s : State} {ty : FieldType} (h : (Cond.arrayClass ty).before args s = true) : ∃ c, s.vm.findClass ("[" ++ ty.toString) = some c ∧ ArrOfT s c ty := by
  obtain ⟨c, k, comp, h1, h2, h3⟩ := Cond.arrayClass_spec h
  exact ⟨c, h1, fun n z => ⟨(fun k h => by cases h), k, h2, comp, h3⟩⟩
theorem arrO_of {args : Array Value} {s : State} {C : String} (h : (Cond.arrayOver (.object C)).before args s = true) : ∃ c, va_RA s c (.object C) ∧ ArrOfT s c (.object C) := by
  obtain ⟨comp, c, k, h1, h2, h3, h4, h5⟩ := Cond.arrayOver_spec h
  exact ⟨c, ⟨k, comp, h3, h4, h1, h5⟩, fun n z => ⟨(fun k h => by cases h), k, h3, comp, h4⟩⟩
theorem dw_0 : Dc cL_law 0 (.new 8) 3 3 := ⟨by decide +kernel, rfl⟩
theorem dw_3 : Dc cL_law 3 (.dup) 1 4 := ⟨by decide +kernel, rfl⟩
theorem dw_4 : Dc cL_law 4 (.invokespecial 85) 3 7 := ⟨by decide +kernel, rfl⟩
theorem dw_7 : Dc cL_law 7 (.astore_n 1) 1 8 := ⟨by decide +kernel, rfl⟩
theorem dw_8 : Dc cL_law 8 (.new 86) 3 11 := ⟨by decide +kernel, rfl⟩
theorem dw_11 : Dc cL_law 11 (.dup) 1 12 := ⟨by decide +kernel, rfl⟩
theorem dw_12 : Dc cL_law 12 (.invokespecial 88) 3 15 := ⟨by decide +kernel, rfl⟩
theorem dw_15 : Dc cL_law 15 (.astore_n 2) 1 16 := ⟨by decide +kernel, rfl⟩
theorem dw_16 : Dc cL_law 16 (.iconst 1) 1 17 := ⟨by decide +kernel, rfl⟩
theorem dw_17 : Dc cL_law 17 (.newarray .long) 2 19 := ⟨by decide +kernel, rfl⟩
theorem dw_19 : Dc cL_law 19 (.astore_n 3) 1 20 := ⟨by decide +kernel, rfl⟩
theorem dw_20 : Dc cL_law 20 (.iconst 0) 1 21 := ⟨by decide +kernel, rfl⟩
theorem dw_21 : Dc cL_law 21 (.istore 4) 2 23 := ⟨by decide +kernel, rfl⟩
theorem dw_1648 : Dc cL_law 1648 (.iconst 1) 1 1649 := ⟨by decide +kernel, rfl⟩
theorem dw_1649 : Dc cL_law 1649 (.ireturn) 1 1650 := ⟨by decide +kernel, rfl⟩
set_option maxHeartbeats 8000000 in
set_option maxRecDepth 100000 in
/-- what the start gives -/
theorem start_facts {s : State} {b : Nat} (hts : ∀ w ∈ lw_tbl, w.before #[Value.ref b] s = true) (hgv : (Jvm.Cond.and given_1 narrow_1).before #[Value.ref b] s = true) : ∃ G : Gd, G.1 = s.heap.size ∧ va_K (gD G) vwCl (gT G) s ∧ XW G s ∧ XN G s := by
  have hs := flat_of_before _ hgv
  have hw := wt_tbl hts
  obtain ⟨c0, i0, hk0⟩ := u_known (C := RX0) (T := TX0) (N := 3) (n := 3) hw in_X0 (hw _ wd_223)
  obtain ⟨c1, i1, hk1⟩ := u_known (C := RX1) (T := TX1) (N := 8) (n := 8) hw in_X1 (hw _ wd_113)
  obtain ⟨c2, i2, hk2⟩ := u_known (C := RX2) (T := TX2) (N := 8) (n := 8) hw in_X2 (hw _ wd_89)
  obtain ⟨c3, i3, hk3⟩ := u_known (C := RX3) (T := TX3) (N := 8) (n := 8) hw in_X3 (hw _ wd_107)
  obtain ⟨c4, i4, hk4⟩ := u_known (C := RX4) (T := TX4) (N := 6) (n := 6) hw in_X4 (hw _ wd_243)
  obtain ⟨c5, i5, hk5⟩ := u_known (C := RX5) (T := TX5) (N := 5) (n := 5) hw in_X5 (hw _ wd_81)
  obtain ⟨c6, i6, hk6⟩ := u_known (C := RX6) (T := TX6) (N := 15) (n := 15) hw in_X6 (hw _ wd_874)
  obtain ⟨aI, naI, haI⟩ := arr_of (hw _ wd_152)
  obtain ⟨aC, naC, haC⟩ := arr_of (hw _ wd_272)
  obtain ⟨aJ, naJ, haJ⟩ := arr_of (hw _ wd_1243)
  obtain ⟨aS, naS, haS⟩ := arrO_of (C := "ThawPoints$State") (hts _ (List.mem_of_getElem? (i := 229) (by decide +kernel)))
  obtain ⟨aT, naT, haT⟩ := arrO_of (C := "ThawPoints$Thermometer") (hts _ (List.mem_of_getElem? (i := 106) (by decide +kernel)))
  obtain ⟨q0, cl0, z0, y0, x0, w0, v0, u0, t0, r0⟩ := st_row (n := "FIRST_BATHS") (N := 4) (f := fFB) (by decide) (hts _ (List.mem_of_getElem? (i := 95) (by decide +kernel))) (hw _ wd_65) (hs _ (by decide +kernel)) (hs _ (by decide +kernel)) (hs _ (by decide +kernel)) (fun j hj => by
      have h : j = 0 ∨ j = 1 ∨ j = 2 ∨ j = 3 := by omega
      rcases h with rfl | rfl | rfl | rfl <;> exact hs _ (by decide +kernel)) naI
  obtain ⟨q1, cl1, z1, y1, x1, w1, v1, u1, t1, r1⟩ := st_row (n := "FIRST_SETTINGS") (N := 7) (f := fFS) (by decide) (hts _ (List.mem_of_getElem? (i := 104) (by decide +kernel))) (hw _ wd_65) (hs _ (by decide +kernel)) (hs _ (by decide +kernel)) (hs _ (by decide +kernel)) (fun j hj => by
      have h : j = 0 ∨ j = 1 ∨ j = 2 ∨ j = 3 ∨ j = 4 ∨ j = 5 ∨ j = 6 := by omega
      rcases h with rfl | rfl | rfl | rfl | rfl | rfl | rfl <;> exact hs _ (by decide +kernel)) naI
  obtain ⟨q2, cl2, z2, y2, x2, w2, v2, u2, t2, r2⟩ := st_row (n := "HASHED_READINGS") (N := 3) (f := fHR) (by decide) (hts _ (List.mem_of_getElem? (i := 558) (by decide +kernel))) (hw _ wd_65) (hs _ (by decide +kernel)) (hs _ (by decide +kernel)) (hs _ (by decide +kernel)) (fun j hj => by
      have h : j = 0 ∨ j = 1 ∨ j = 2 := by omega
      rcases h with rfl | rfl | rfl <;> exact hs _ (by decide +kernel)) naI
  obtain ⟨q3, cl3, z3, y3, x3, w3, v3, u3, t3, r3⟩ := st_row (n := "SETTING_LIMITS") (N := 7) (f := fSL) (by decide) (hts _ (List.mem_of_getElem? (i := 718) (by decide +kernel))) (hw _ wd_65) (hs _ (by decide +kernel)) (hs _ (by decide +kernel)) (hs _ (by decide +kernel)) (fun j hj => by
      have h : j = 0 ∨ j = 1 ∨ j = 2 ∨ j = 3 ∨ j = 4 ∨ j = 5 ∨ j = 6 := by omega
      rcases h with rfl | rfl | rfl | rfl | rfl | rfl | rfl <;> exact hs _ (by decide +kernel)) naI
  let dC : Nat → ClassId := fun k => if k = 0 then c0 else if k = 1 then c1 else if k = 2 then c2 else if k = 3 then c3 else if k = 4 then c4 else if k = 5 then c5 else c6
  let dI : Nat → Nat → Nat := fun k => if k = 0 then i0 else if k = 1 then i1 else if k = 2 then i2 else if k = 3 then i3 else if k = 4 then i4 else if k = 5 then i5 else i6
  have hA : ∀ a : Nat, a < s.heap.size → ¬ (fun q : Nat => s.heap.size ≤ q) a := fun a h => Nat.not_le.mpr h
  refine ⟨(s.heap.size, dC, dI, aI, aC, aJ, aS, aT, q3, q2), rfl, ⟨fun k q hq => ?_, fun k q hq => ?_⟩, ⟨⟨?_, ?_, ?_, ?_, ⟨z3, ⟨cl3, y3, x3, v3, t3, r3⟩, (Array.getElem?_eq_some_iff.mp y3).1, hA _ (Array.getElem?_eq_some_iff.mp y3).1⟩, ⟨z2, ⟨cl2, y2, x2, v2, t2, r2⟩, (Array.getElem?_eq_some_iff.mp y2).1, hA _ (Array.getElem?_eq_some_iff.mp y2).1⟩⟩, ?_⟩, ⟨⟨q0, z0, hA _ (Array.getElem?_eq_some_iff.mp y0).1, cl0, y0, w0, v0, u0, t0, r0⟩, ⟨q1, z1, hA _ (Array.getElem?_eq_some_iff.mp y1).1, cl1, y1, w1, v1, u1, t1, r1⟩, ?_, ?_, ?_, ?_, ?_⟩⟩
  · match k, hq with
    | 0, hq => cases hq; exact hk0
    | 1, hq => cases hq; exact hk1
    | 2, hq => cases hq; exact hk2
    | 3, hq => cases hq; exact hk3
    | 4, hq => cases hq; exact hk4
    | 5, hq => cases hq; exact hk5
    | 6, hq => cases hq; exact hk6
    | k + 7, hq => simp [vwCl] at hq
  · match k, hq with
    | 0, hq => cases hq; exact ⟨haI, naI⟩
    | 1, hq => cases hq; exact ⟨haC, naC⟩
    | 2, hq => cases hq; exact ⟨haJ, naJ⟩
    | 3, hq => cases hq; exact ⟨haS, naS⟩
    | 4, hq => cases hq; exact ⟨haT, naT⟩
    | k + 5, hq => simp [gT] at hq
  · exact vx_Zqof (hts _ (List.mem_of_getElem? (i := 399) (by decide +kernel))) (hw _ wd_72) (hs _ (by decide +kernel)) hA
  · exact vx_Zqof (hts _ (List.mem_of_getElem? (i := 401) (by decide +kernel))) (hw _ wd_72) (hs _ (by decide +kernel)) hA
  · intro w hw
    simp only [NB, List.mem_cons, List.not_mem_nil, or_false] at hw
    rcases hw with rfl | rfl | rfl | rfl | rfl | rfl
    · exact va_Nw.of rfl (hts _ (List.mem_of_getElem? (i := 374) (by decide +kernel)))
    · exact va_Nw.of rfl (hts _ (List.mem_of_getElem? (i := 644) (by decide +kernel)))
    · exact va_Nw.of rfl (hts _ (List.mem_of_getElem? (i := 470) (by decide +kernel)))
    · exact va_Nw.of rfl (hts _ (List.mem_of_getElem? (i := 376) (by decide +kernel)))
    · exact va_Nw.of rfl (hts _ (List.mem_of_getElem? (i := 378) (by decide +kernel)))
    · exact va_Nw.of rfl (hts _ (List.mem_of_getElem? (i := 380) (by decide +kernel)))
  · intro q hq
    simp only [SL, List.mem_cons, List.not_mem_nil, or_false] at hq
    rcases hq with rfl | rfl | rfl | rfl | rfl | rfl | rfl | rfl | rfl | rfl | rfl | rfl | rfl | rfl | rfl | rfl | rfl | rfl | rfl | rfl | rfl | rfl
    · obtain ⟨sa, -, -, -, h1, -⟩ := Cond.exactly_spec (hs (.exactly (.string "ThawPoints" 248) "java/lang/String") (by decide +kernel))
      exact ⟨sa, vk_R.of (hts _ (List.mem_of_getElem? (i := 413) (by decide +kernel))) h1⟩
    · obtain ⟨sa, -, -, -, h1, -⟩ := Cond.exactly_spec (hs (.exactly (.string "ThawPoints" 306) "java/lang/String") (by decide +kernel))
      exact ⟨sa, vk_R.of (hts _ (List.mem_of_getElem? (i := 477) (by decide +kernel))) h1⟩
    · obtain ⟨sa, -, -, -, h1, -⟩ := Cond.exactly_spec (hs (.exactly (.string "ThawPoints" 228) "java/lang/String") (by decide +kernel))
      exact ⟨sa, vk_R.of (hts _ (List.mem_of_getElem? (i := 537) (by decide +kernel))) h1⟩
    · obtain ⟨sa, -, -, -, h1, -⟩ := Cond.exactly_spec (hs (.exactly (.string "ThawPoints" 230) "java/lang/String") (by decide +kernel))
      exact ⟨sa, vk_R.of (hts _ (List.mem_of_getElem? (i := 542) (by decide +kernel))) h1⟩
    · obtain ⟨sa, -, -, -, h1, -⟩ := Cond.exactly_spec (hs (.exactly (.string "ThawPoints" 232) "java/lang/String") (by decide +kernel))
      exact ⟨sa, vk_R.of (hts _ (List.mem_of_getElem? (i := 543) (by decide +kernel))) h1⟩
    · obtain ⟨sa, -, -, -, h1, -⟩ := Cond.exactly_spec (hs (.exactly (.string "ThawPoints" 310) "java/lang/String") (by decide +kernel))
      exact ⟨sa, vk_R.of (hts _ (List.mem_of_getElem? (i := 555) (by decide +kernel))) h1⟩
    · obtain ⟨sa, -, -, -, h1, -⟩ := Cond.exactly_spec (hs (.exactly (.string "ThawPoints" 198) "java/lang/String") (by decide +kernel))
      exact ⟨sa, vk_R.of (hts _ (List.mem_of_getElem? (i := 563) (by decide +kernel))) h1⟩
    · obtain ⟨sa, -, -, -, h1, -⟩ := Cond.exactly_spec (hs (.exactly (.string "ThawPoints" 200) "java/lang/String") (by decide +kernel))
      exact ⟨sa, vk_R.of (hts _ (List.mem_of_getElem? (i := 564) (by decide +kernel))) h1⟩
    · obtain ⟨sa, -, -, -, h1, -⟩ := Cond.exactly_spec (hs (.exactly (.string "ThawPoints" 308) "java/lang/String") (by decide +kernel))
      exact ⟨sa, vk_R.of (hts _ (List.mem_of_getElem? (i := 582) (by decide +kernel))) h1⟩
    · obtain ⟨sa, -, -, -, h1, -⟩ := Cond.exactly_spec (hs (.exactly (.string "ThawPoints" 178) "java/lang/String") (by decide +kernel))
      exact ⟨sa, vk_R.of (hts _ (List.mem_of_getElem? (i := 620) (by decide +kernel))) h1⟩
    · obtain ⟨sa, -, -, -, h1, -⟩ := Cond.exactly_spec (hs (.exactly (.string "ThawPoints" 39) "java/lang/String") (by decide +kernel))
      exact ⟨sa, vk_R.of (hts _ (List.mem_of_getElem? (i := 637) (by decide +kernel))) h1⟩
    · obtain ⟨sa, -, -, -, h1, -⟩ := Cond.exactly_spec (hs (.exactly (.string "ThawPoints" 50) "java/lang/String") (by decide +kernel))
      exact ⟨sa, vk_R.of (hts _ (List.mem_of_getElem? (i := 651) (by decide +kernel))) h1⟩
    · obtain ⟨sa, -, -, -, h1, -⟩ := Cond.exactly_spec (hs (.exactly (.string "ThawPoints" 95) "java/lang/String") (by decide +kernel))
      exact ⟨sa, vk_R.of (hts _ (List.mem_of_getElem? (i := 699) (by decide +kernel))) h1⟩
    · obtain ⟨sa, -, -, -, h1, -⟩ := Cond.exactly_spec (hs (.exactly (.string "ThawPoints" 105) "java/lang/String") (by decide +kernel))
      exact ⟨sa, vk_R.of (hts _ (List.mem_of_getElem? (i := 716) (by decide +kernel))) h1⟩
    · obtain ⟨sa, -, -, -, h1, -⟩ := Cond.exactly_spec (hs (.exactly (.string "ThawPoints" 111) "java/lang/String") (by decide +kernel))
      exact ⟨sa, vk_R.of (hts _ (List.mem_of_getElem? (i := 719) (by decide +kernel))) h1⟩
    · obtain ⟨sa, -, -, -, h1, -⟩ := Cond.exactly_spec (hs (.exactly (.string "ThawPoints" 120) "java/lang/String") (by decide +kernel))
      exact ⟨sa, vk_R.of (hts _ (List.mem_of_getElem? (i := 727) (by decide +kernel))) h1⟩
    · obtain ⟨sa, -, -, -, h1, -⟩ := Cond.exactly_spec (hs (.exactly (.string "ThawPoints" 134) "java/lang/String") (by decide +kernel))
      exact ⟨sa, vk_R.of (hts _ (List.mem_of_getElem? (i := 765) (by decide +kernel))) h1⟩
    · obtain ⟨sa, -, -, -, h1, -⟩ := Cond.exactly_spec (hs (.exactly (.string "ThawPoints" 143) "java/lang/String") (by decide +kernel))
      exact ⟨sa, vk_R.of (hts _ (List.mem_of_getElem? (i := 777) (by decide +kernel))) h1⟩
    · obtain ⟨sa, -, -, -, h1, -⟩ := Cond.exactly_spec (hs (.exactly (.string "ThawPoints" 148) "java/lang/String") (by decide +kernel))
      exact ⟨sa, vk_R.of (hts _ (List.mem_of_getElem? (i := 778) (by decide +kernel))) h1⟩
    · obtain ⟨sa, -, -, -, h1, -⟩ := Cond.exactly_spec (hs (.exactly (.string "ThawPoints" 159) "java/lang/String") (by decide +kernel))
      exact ⟨sa, vk_R.of (hts _ (List.mem_of_getElem? (i := 790) (by decide +kernel))) h1⟩
    · obtain ⟨sa, -, -, -, h1, -⟩ := Cond.exactly_spec (hs (.exactly (.string "ThawPoints" 181) "java/lang/String") (by decide +kernel))
      exact ⟨sa, vk_R.of (hts _ (List.mem_of_getElem? (i := 824) (by decide +kernel))) h1⟩
    · obtain ⟨sa, -, -, -, h1, -⟩ := Cond.exactly_spec (hs (.exactly (.string "ThawPoints" 193) "java/lang/String") (by decide +kernel))
      exact ⟨sa, vk_R.of (hts _ (List.mem_of_getElem? (i := 836) (by decide +kernel))) h1⟩
  · intro q hq
    simp only [NCW, List.mem_cons, List.not_mem_nil, or_false] at hq
    rcases hq with rfl | rfl | rfl | rfl | rfl | rfl <;> exact va_Nc.of (hs _ (by decide +kernel))
  · intro q hq
    simp only [NF, List.mem_cons, List.not_mem_nil, or_false] at hq
    rcases hq with rfl | rfl
    · exact va_Nw.of rfl (hts _ (List.mem_of_getElem? (i := 94) (by decide +kernel)))
    · exact va_Nw.of rfl (hts _ (List.mem_of_getElem? (i := 103) (by decide +kernel)))
  · intro q hq
    simp only [NM, List.mem_cons, List.not_mem_nil, or_false] at hq
    rcases hq with rfl | rfl | rfl
    · exact va_Nw.of rfl (hts _ (List.mem_of_getElem? (i := 108) (by decide +kernel)))
    · exact va_Nw.of rfl (hts _ (List.mem_of_getElem? (i := 114) (by decide +kernel)))
    · exact va_Nw.of rfl (hts _ (List.mem_of_getElem? (i := 244) (by decide +kernel)))
  · exact va_Nw.of rfl (hts _ (List.mem_of_getElem? (i := 101) (by decide +kernel)))
  · exact va_AO.of (A := #[Value.ref b]) (hts _ (List.mem_of_getElem? (i := 106) (by decide +kernel)))
  · exact va_AO.of (A := #[Value.ref b]) (hts _ (List.mem_of_getElem? (i := 229) (by decide +kernel)))
theorem f9_w (G : Gd) (e1 e2 : va_E) (j : Nat) (hj : j < 476) : fu (blk (fu (blk (fu (fun _ => arI G 0) 0 e1) 0 470 (tpC G 0)) 470 e2) 470 5 (moC G 470)) 475 (.inl (aJ G, 1, .inr (.inl (fun _ => 0)))) j = f9 G j := by
  unfold f9
  by_cases h : j < 470
  · rw [if_pos h, fu_n (by omega), blk_out (by omega), fu_n (by omega), blk_in (by omega), Nat.sub_zero]
  · rw [if_neg h]
    by_cases h2 : j < 475
    · rw [if_pos h2, fu_n (by omega), blk_in (by omega)]
    · obtain rfl : j = 475 := by omega
      rw [if_neg h2, fu_s]
set_option maxHeartbeats 8000000 in
set_option maxRecDepth 100000 in
theorem whole_start {p : Program} {e : Env} {s : State} {m : MethodId} {below : List Frame} {meth : Method} {c : Code} (l : Launch) (hflags : l.flags = flags0) {b L : Nat} {xs : Nat → Int32} (hL : L ≤ 2048) (C0 : lw_At p s m meth c b L xs) : W p l e room_1 s m #[Value.ref b] below meth c s.heap [] 0 0 (lw_Z below #[Value.ref b] s) (entryFrame m ([Value.ref b] : List Value).toArray 9) := by
  obtain ⟨hx, hb, hr, hml, hown, hts, hX, hbl, hlocks, hgv⟩ := id C0
  obtain ⟨G, hG, hK, XWs, XNs⟩ := start_facts hts hgv
  have hl9 : l.stackTraces = false := by
    unfold Launch.stackTraces
    rw [hflags]
    decide
  have C : Cx G RL cL_law 9 (some .boolean) p s m #[Value.ref b] meth c := ⟨hx, hb, hml, hr, hown, wt_tbl hts, hK, hlocks, by omega⟩
  have hbA : ¬ fr G b := by show ¬ G.1 ≤ b; omega
  have hl := lv_entry ([.ref b]) (n := 9) (Nat.le_of_ble_eq_true rfl)
  rw [lg_entry_eq]
  generalize (lg_sl ([.ref b]) ++ List.replicate (9 - (lg_sl ([.ref b])).length) Slot.unset).toArray = ls at hl ⊢
  have hl : lv_has ls 9 [(0, .ref b)] := hl
  have P : Hn G (fun _ => arI G 0) 0 s s.heap [] := ⟨fun k q h => by simp [WSn] at h, by omega, va_S.rf⟩
  refine n_new C P (T := TX5) (C' := RX5) (N := 5) (ci := 5) in_X5 tyX5 tyX5_ok wd_80 wd_81 wd_65 rfl ([.null, .null, .null, .null, .int 0]) (fun j hj => by rcases (show j = 0 ∨ j = 1 ∨ j = 2 ∨ j = 3 ∨ j = 4 by omega) with rfl | rfl | rfl | rfl | rfl <;> rfl) ⟨Nat.le_of_ble_eq_true rfl, Nat.le_of_ble_eq_true rfl⟩ dw_0 (fun H P => ?_)
  refine r_dup C rfl dw_3 ?_
  refine n_ctor C XNs P (rm := rmX5_init) (a := 0) wd_82 wd_83 wd_65 wd_84 rfl (by decide +kernel) (ctX5_init l G _ 0 fu_s) ⟨Nat.le_of_ble_eq_true rfl, Nat.le_of_ble_eq_true rfl⟩ ⟨Nat.le_of_ble_eq_true rfl, Nat.le_of_ble_eq_true rfl⟩ hl.1 (Nat.le_of_ble_eq_true rfl) dw_4 (fun H Q P => ?_)
  have P : Hn G _ 470 s H Q := P
  refine r_astore_n C [(1, .ref (rA G 0 0)), (0, .ref b)] hl (by decide) rfl rfl dw_7 (fun ls hl => ?_)
  refine n_new C P (T := TX6) (C' := RX6) (N := 15) (ci := 6) in_X6 tyX6 tyX6_ok wd_873 wd_874 wd_71 rfl ([.int 0, .null, .null, .int 0, .null, .int 0, .null, .int 0, .int 0, .int 0, .int 0, .int 0, .int 0, .int 0, .long 0]) (fun j hj => by rcases (show j = 0 ∨ j = 1 ∨ j = 2 ∨ j = 3 ∨ j = 4 ∨ j = 5 ∨ j = 6 ∨ j = 7 ∨ j = 8 ∨ j = 9 ∨ j = 10 ∨ j = 11 ∨ j = 12 ∨ j = 13 ∨ j = 14 by omega) with rfl | rfl | rfl | rfl | rfl | rfl | rfl | rfl | rfl | rfl | rfl | rfl | rfl | rfl | rfl <;> rfl) ⟨Nat.le_of_ble_eq_true rfl, Nat.le_of_ble_eq_true rfl⟩ dw_8 (fun H P => ?_)
  refine r_dup C rfl dw_11 ?_
  refine n_ctor C XNs P (rm := rmX6_init) (a := 470) wd_875 wd_876 wd_71 wd_877 rfl (by decide +kernel) (ctX6_init l G _ 470 fu_s) ⟨Nat.le_of_ble_eq_true rfl, Nat.le_of_ble_eq_true rfl⟩ ⟨Nat.le_of_ble_eq_true rfl, Nat.le_of_ble_eq_true rfl⟩ hl.1 (Nat.le_of_ble_eq_true rfl) dw_12 (fun H Q P => ?_)
  have P : Hn G _ 475 s H Q := P
  refine r_astore_n C [(2, .ref (rA G 19 0)), (1, .ref (rA G 0 0)), (0, .ref b)] hl (by decide) rfl rfl dw_15 (fun ls hl => ?_)
  refine r_iconst C (v := 1) (by decide) dw_16 ?_
  refine n_newa C P (ty := .long) (cA := aJ G) (t0 := 2) rfl wd_1243 rfl (fun _ h => nomatch h) (a0 := (1, .inr (.inl fun _ => 0))) (N := 1) (fun _ => rfl) ⟨by decide, by decide, by decide⟩ ⟨Nat.le_of_ble_eq_true rfl, Nat.le_of_ble_eq_true rfl⟩ dw_17 (fun H P => ?_)
  refine r_astore_n C [(3, .ref (rA G 24 0)), (2, .ref (rA G 19 0)), (1, .ref (rA G 0 0)), (0, .ref b)] hl (by decide) rfl rfl dw_19 (fun ls hl => ?_)
  refine r_iconst C (v := 0) (by decide) dw_20 ?_
  refine r_istore C [(4, .int 0), (3, .ref (rA G 24 0)), (2, .ref (rA G 19 0)), (1, .ref (rA G 0 0)), (0, .ref b)] hl (by decide) rfl dw_21 (fun ls hl => ?_)
  have P : Hn G (f9 G) 476 s H _ := P.to (fun j hj => f9_w G _ _ j hj)
  refine lL_law C XWs hl9 hX hbl hbA (fun H L ls cl sl hS hcl hsl => ?_) FU o0 0 _ _ _ _ _ (by decide) (by decide) ⟨f9_WS P.1, P.2.2⟩ (lv_sub hl [4, 3, 2, 1, 0] rfl) (law_pure xs L hL)
  refine va_forget (fun q hq => by have h : G.1 ≤ q.base := hS.2.2 q hq; omega) ?_
  refine W.widen hcl hsl ?_
  exact lw_ret (d0 := s.drawn) (Drawn.sameBut.refl s.drawn lw_cs) hx hb hr hlocks dw_1649.1
