def bx {β γ : Type} (x : Option ((Nat × β) × OM)) (z0 : γ) (k : β → OM → Option ((Nat × γ) × OM)) : Option ((Nat × γ) × OM) := bn x (fun q o1 => if q.1 = 0 then k q.2 o1 else some ((q.1, z0), o1))
def exN (code : Nat) : String := if code = 1 then "java/lang/IllegalArgumentException" else if code = 2 then "java/lang/IllegalStateException" else "java/lang/IndexOutOfBoundsException"
def mcx (code : Nat) : Nat := if code = 0 then 0 else 1
def rmx (rm : Room) (code : Nat) : Room := { frames := rm.frames, cells := mcx code, slots := 6 * mcx code, locals := rm.locals }
def fSL : Nat → Int32 := fun j => ([60, 60, 60, 60, 20, 100, 100] : List Int32).getD j 0
def fHR : Nat → Int32 := fun j => ([0, 500, 1100] : List Int32).getD j 0
def exE : List String := ["java/lang/RuntimeException", "java/lang/Exception"]
def NB : List Cond := [.castable "java/lang/IllegalArgumentException" "java/lang/IllegalArgumentException", .castable "java/lang/IllegalStateException" "java/lang/IllegalStateException", .castable "java/lang/IndexOutOfBoundsException" "java/lang/IndexOutOfBoundsException", .declares ⟨"java/lang/RuntimeException", "<init>", "(Ljava/lang/String;)V"⟩, .declares ⟨"java/lang/Exception", "<init>", "(Ljava/lang/String;)V"⟩, .declares ⟨"java/lang/Throwable", "<init>", "(Ljava/lang/String;)V"⟩]
def SL : List (Nat × String) := [(181, "there is no saved state"), (248, "what is not 0 to 17"), (39, "zero, gain or batch is out of range"), (50, "there are 6 thermometers"), (306, "no such thermometer"), (308, "no such bath"), (310, "degree is out of range"), (95, "years is out of range"), (105, "no such setting"), (111, "value is out of range"), (120, "it cannot be measured"), (134, "it cannot get a paper"), (178, "what is neither 0 nor 1"), (228, "what is not 0 to 8"), (230, "place is below 0"), (232, "what is not 0 to 3"), (198, "reading is out of range"), (200, "way is neither 0 nor 1")]
/-- what a method that may throw needs of the state beside its world -/
def XFA (A : Nat → Prop) (aLG : Nat) (U : State) : Prop :=
  vx_Zq Bundle.tN "UNASSIGNED_STACK" Bundle.steD A U U.heap ∧ vx_Zq Bundle.tN "SUPPRESSED_SENTINEL" Bundle.listD A U U.heap ∧ (∀ w ∈ NB, va_Nw w U) ∧ (∀ q ∈ SL, ∃ sa, vk_R RX5 q.1 q.2 sa U) ∧
  (va_Z RX5 "SETTING_LIMITS" "[I" (.ref aLG) A U U.heap ∧ va_X aLG 7 fSL U U.heap ∧ aLG < U.heap.size ∧ ¬ A aLG)
def XF (G : Gd) (U : State) : Prop := XFA (fr G) (aL G) U
theorem XFA.narrow {A B : Nat → Prop} {aLG : Nat} {U : State} (h : XFA A aLG U) (hAB : ∀ q, B q → A q) : XFA B aLG U := by
  obtain ⟨h1, h2, h3, h4, h5, h6, h7, h8⟩ := h
  obtain ⟨cf, kf, fi, f, a, cell, g1, g2, g3, g4, g5, g6, g7, g8⟩ := h5
  exact ⟨h1.narrow hAB, h2.narrow hAB, h3, h4, ⟨cf, kf, fi, f, a, cell, g1, g2, g3, g4, g5, g6, g7, fun z => g8 (hAB _ z)⟩, h6, h7, fun z => h8 (hAB _ z)⟩
theorem XFA.to {A : Nat → Prop} {aLG : Nat} {s U : State} {H : Heap} {locs : List Loc} (h : XFA A aLG s) (hS : va_S A s.heap H locs) (hU : U.heap = H) (hW : s.WarmedH U.vm) : XFA A aLG U := by
  obtain ⟨h1, h2, h3, h4, h5, h6, h7, h8⟩ := h
  have hk : ∀ a : Nat, a < s.heap.size → ¬ A a → U.heap[a]? = s.heap[a]? := fun a ha hb => by rw [hU]; exact hS.2.1 a ha hb
  have hz : s.heap.size ≤ U.heap.size := by rw [hU]; exact hS.1
  refine ⟨(vx_Zq.kept h1 hk).moved hW.alike, (vx_Zq.kept h2 hk).moved hW.alike, fun w hw => ?_, fun q hq => ?_, (va_Z.kept h5 hk).moved hW.alike, (va_X.kept h6 (hk _ h7 h8)).moved hW.alike, Nat.lt_of_lt_of_le h7 hz, h8⟩
  · have h := h3 w hw
    simp only [NB, List.mem_cons, List.not_mem_nil, or_false] at hw
    rcases hw with rfl | rfl | rfl | rfl | rfl | rfl <;> first | exact va_Nw.warmC hW h | exact va_Nw.warmD hW h
  · obtain ⟨sa, h⟩ := h4 q hq
    exact ⟨sa, h.warm hW⟩
theorem XFA.calling {A : Nat → Prop} {aLG : Nat} {U : State} {g : JFrame} {mk : MethodId} {a : Array Value} (h : XFA A aLG U) : XFA A aLG (U.calling g mk a) := by
  obtain ⟨h1, h2, h3, h4, h5, h6, h7, h8⟩ := h
  have hA : U.vm.Alike (U.calling g mk a).vm := Vm.Alike.refl U.vm
  refine ⟨h1.moved hA, h2.moved hA, fun w hw => ?_, fun q hq => ?_, h5.moved hA, h6.moved hA, h7, h8⟩
  · have h := h3 w hw
    simp only [NB, List.mem_cons, List.not_mem_nil, or_false] at hw
    rcases hw with rfl | rfl | rfl | rfl | rfl | rfl <;> exact va_Nw.same rfl rfl h
  · obtain ⟨sa, h⟩ := h4 q hq
    exact ⟨sa, h.same rfl⟩
theorem XF.to {G : Gd} {s U : State} {H : Heap} {locs : List Loc} (h : XF G s) (hS : va_S (fr G) s.heap H locs) (hU : U.heap = H) (hW : s.WarmedH U.vm) : XF G U := XFA.to h hS hU hW
theorem XF.calling {G : Gd} {U : State} {g : JFrame} {mk : MethodId} {a : Array Value} (h : XF G U) : XF G (U.calling g mk a) := XFA.calling h
def PreX (G : Gd) (o : OM) (U : State) : Prop := PreG G o U ∧ XF G U
def QxC (G : Gd) (code : Nat) (rv : Option Value) (o' : OM) : Array Value → State → Outcome → State → Prop := fun a st oc t => code = 0 ∧ QcG G rv o' a st oc t
def XxC (G : Gd) (code : Nat) (o' : OM) : String → State → State → Prop := fun E st t => E = exN code ∧ code ≠ 0 ∧ va_P (gD G) vwCl (WS G o') t.heap ∧ va_F (fr G) st t
abbrev Cte (l : Launch) (y : MethodName) (cc : ByteArray) (maxL : Nat) (ret : Option FieldType) (rm : Room) (G : Gd) (As : List Value) (o : OM) (code : Nat) (rv : Option Value) (o' : OM) : Prop :=
  vx_Met l y (Cond.code y cc maxL ret :: WT) (rmx rm code) (va_Pc As (PreX G o)) (QxC G code rv o') (XxC G code o') (mcx code) (6 * mcx code) (fr G)
abbrev Qxm (G : Gd) (code : Nat) (rv : Option Value) (o' : OM) (below : List Frame) (args : Array Value) (s : State) : State → Prop := vx_MQ below (QxC G code rv o') (XxC G code o') args s (mcx code) (6 * mcx code) (fr G)
def Cex (c : Code) : Prop := ∀ x ∈ c.exceptionTable.toList, False
theorem cte_of {l : Launch} {y : MethodName} {cc : ByteArray} {maxL : Nat} {ret : Option FieldType} {rm : Room} {G : Gd} {As : List Value} {o : OM} {code : Nat} {rv : Option Value} {o' : OM} (hy : plainName y.cls = true) (hl : (lg_sl As).length ≤ maxL)
    (body : ∀ p e s m below meth c ls, Cx G y.cls cc maxL ret p s m As.toArray meth c → Cex c → XF G s → Hp G o s s.heap [] → lv_has ls maxL (lv_args 0 As) →
      W p l e (rmx rm code) s m As.toArray below meth c s.heap [] 0 0 (Qxm G code rv o' below As.toArray s) (F0 m 0 ls [])) : Cte l y cc maxL ret rm G As o code rv o' := by
  refine vx_ofW (cc := cc) (maxL := maxL) (ret := ret) hy rfl ?_
  intro p e s m args below meth c s₁ B hml ht hv
  obtain ⟨rfl, ⟨hP, hK, hz⟩, hX⟩ := hv
  have hts := atoms_spec (ws := Cond.code y cc maxL ret :: WT) B.pre
  have hC : Cx G y.cls cc maxL ret p s m As.toArray meth c := ⟨B.exec, B.bytes, hml, B.returns, findClass_of_methodNamed B.named, fun w hw => hts w (List.mem_cons_of_mem _ hw), hK, B.notSynchronized, hz⟩
  have h := body p e s m below meth c _ hC ht hX ⟨hP, va_S.rf⟩ (lv_entry As (n := maxL) hl)
  rw [lg_entry_eq]
  exact h
section XR
variable {G : Gd} {own : String} {cc : ByteArray} {nL : Nat} {ret : Option FieldType} {p : Program} {l : Launch} {e : Env} {R : Room} {s : State} {m : MethodId} {args : Array Value} {below : List Frame} {meth : Method} {c : Code} {H : Heap} {locs : List Loc} {cells slots : Nat} {Q : State → Prop} {o : OM}
variable {pc pc' : Nat} {ls : Array Slot} {rest : List Value}
theorem x_iret (C : Cx G own cc nL (some .int) p s m args meth c) (P : Hp G o s H locs) {x : Int32} {q : Nat × Int32} {o1 : OM} (d : Dc cc pc .ireturn 1 pc') (hf : some ((0, x), o) = some (q, o1)) : W p l e R s m args below meth c H locs 0 0 (Qxm G q.1 (some (.int q.2)) o1 below args s) (F0 m pc ls [.int x]) := by
  cases hf
  have hlocks : meth.locks = false := C.2.2.2.2.2.2.2.1
  exact vx_ret (W.iret C.1 C.2.1 C.2.2.2.1 (fun t ht _ => ⟨rfl, rfl, by rw [ht]; exact P.1, P.2.F ht⟩) P.2.2.2 d.1)
theorem x_lret (C : Cx G own cc nL (some .long) p s m args meth c) (P : Hp G o s H locs) {x : Int64} {q : Nat × Int64} {o1 : OM} (d : Dc cc pc .lreturn 1 pc') (hf : some ((0, x), o) = some (q, o1)) : W p l e R s m args below meth c H locs 0 0 (Qxm G q.1 (some (.long q.2)) o1 below args s) (F0 m pc ls [.long x]) := by
  cases hf
  have hlocks : meth.locks = false := C.2.2.2.2.2.2.2.1
  exact vx_ret (W.lret C.1 C.2.1 C.2.2.2.1 (fun t ht _ => ⟨rfl, rfl, by rw [ht]; exact P.1, P.2.F ht⟩) P.2.2.2 d.1)
theorem x_vret (C : Cx G own cc nL none p s m args meth c) (P : Hp G o s H locs) {q : Nat × Unit} {o1 : OM} (d : Dc cc pc .return_ 1 pc') (hf : some ((0, ()), o) = some (q, o1)) : W p l e R s m args below meth c H locs 0 0 (Qxm G q.1 none o1 below args s) (F0 m pc ls []) := by
  cases hf
  have hlocks : meth.locks = false := C.2.2.2.2.2.2.2.1
  exact vx_ret (W.vret C.1 C.2.1 C.2.2.2.1 (fun t ht _ => ⟨rfl, rfl, by rw [ht]; exact P.1, P.2.F ht⟩) P.2.2.2 d.1)
/-- what a throw of the class E (number k, text tx) needs of the tables -/
def ThF (k : Nat) (E : String) (ik is ic : Nat) (tx : String) : Prop :=
  E = exN k ∧ k ≠ 0 ∧ (is, tx) ∈ SL ∧ Cond.classLink RX5 ik E ∈ WT ∧ Cond.initialized E ∈ WT ∧ (∀ w ∈ (vx_atS RX5 ic E exE).filter goodWord, w ∈ WT) ∧ (∀ w ∈ (vx_atS RX5 ic E exE).filter (fun w => !goodWord w), w ∈ NB) ∧ (∀ w ∈ Cond.classLink RX5 ik E :: Cond.initialized E :: vx_atS RX5 ic E exE, vx_ot w = true) ∧ Bundle.fit E = true
theorem x_hat (C : Cx G own cc nL ret p s m args meth c) (X : XF G s) {k ik is ic : Nat} {E tx : String} (T : ThF k E ik is ic tx) : ∀ w ∈ vx_atS RX5 ic E exE, w.before args s = true := by
  refine vx_hat (B := NB) (fun w hw => C.2.2.2.2.2.1 w (T.2.2.2.2.2.1 w hw)) T.2.2.2.2.2.2.1 (fun w hw => ?_)
  have h := X.2.2.1 w hw
  simp only [NB, List.mem_cons, List.not_mem_nil, or_false] at hw
  rcases hw with rfl | rfl | rfl | rfl | rfl | rfl <;> exact va_Nw.use rfl h
theorem x_hx (P : Hp G o s H locs) {k : Nat} {E : String} (hE : E = exN k) (hk : k ≠ 0) (t : State) (h1 : H.size ≤ t.heap.size) (h2 : ∀ q : Nat, q < H.size → t.heap[q]? = H[q]?) : XxC G k o E s t :=
  ⟨hE, hk, P.1.kept (fun j q hq => h2 q.1 (P.1 j q hq).lt), Nat.le_trans P.2.1 h1, fun q hq1 hq2 => by rw [h2 q (Nat.lt_of_lt_of_le hq1 P.2.1)]; exact P.2.2.1 q hq1 hq2⟩
theorem x_throw (C : Cx G RX5 cc nL ret p s m args meth c) (E0 : Cex c) (X : XF G s) (hl : l.stackTraces = false) (P : Hp G o s H locs) {k ik is ic : Nat} {E tx : String} (T : ThF k E ik is ic tx) {rm : Room} (hR : 5 < rm.frames ∧ (rest.map fun v => v.category).sum + 82 ≤ rm.locals) (hsz : ls.size = nL)
    (d0 : decode cc pc = .ok (.new ik, 3)) (d3 : decode cc (pc + 3) = .ok (.dup, 1)) (d4 : decode cc (pc + 4) = .ok (.ldc is, 2)) (d6 : decode cc (pc + 6) = .ok (.invokespecial ic, 3)) (d9 : decode cc (pc + 9) = .ok (.athrow, 1))
    {γ : Type} {x0 : γ} {q : Nat × γ} {o1 : OM} {rv : Option Value} (hf : some ((k, x0), o) = some (q, o1)) : W p l e (rmx rm q.1) s m args below meth c H locs 0 0 (Qxm G q.1 rv o1 below args s) (F0 m pc ls rest) := by
  cases hf
  obtain ⟨t1, t2, t3, t4, t5, t6, t7, t8, t9⟩ := id T
  obtain ⟨sa, hsa⟩ := X.2.2.2.1 _ t3
  have hk1 : mcx k = 1 := by unfold mcx; rw [if_neg t2]
  refine vx_throwS (names := exE) C.1 C.2.1 hl C.2.2.2.2.1 t9 (by decide) (C.2.2.2.2.2.1 _ t4) (C.2.2.2.2.2.1 _ t5) hsa (x_hat C X T) t8 X.1 X.2.1 P.2 (hsz.trans C.2.2.1.symm) d0 d3 d4 d6 d9 (fun x hx => (E0 x hx).elim) hR.1 hR.2 ?_ ?_ C.2.2.2.2.2.2.2.1 (fun t _ h1 h2 => x_hx P t1 t2 t h1 h2) P.2.2.2 ?_ ?_ <;> show _ ≤ _ <;> simp [rmx, hk1]
theorem x_throwW (C : Cx G RX5 cc nL ret p s m args meth c) (E0 : Cex c) (X : XF G s) (hl : l.stackTraces = false) (P : Hp G o s H locs) {k ik is ic : Nat} {E tx : String} (T : ThF k E ik is ic tx) {rm : Room} (hR : 5 < rm.frames ∧ (rest.map fun v => v.category).sum + 82 ≤ rm.locals) (hsz : ls.size = nL)
    (d0 : decode cc pc = .ok (.new ik, 3)) (d3 : decode cc (pc + 3) = .ok (.dup, 1)) (d4 : decode cc (pc + 4) = .ok (.ldc_w is, 3)) (d6 : decode cc (pc + 7) = .ok (.invokespecial ic, 3)) (d9 : decode cc (pc + 10) = .ok (.athrow, 1))
    {γ : Type} {x0 : γ} {q : Nat × γ} {o1 : OM} {rv : Option Value} (hf : some ((k, x0), o) = some (q, o1)) : W p l e (rmx rm q.1) s m args below meth c H locs 0 0 (Qxm G q.1 rv o1 below args s) (F0 m pc ls rest) := by
  cases hf
  obtain ⟨t1, t2, t3, t4, t5, t6, t7, t8, t9⟩ := id T
  obtain ⟨sa, hsa⟩ := X.2.2.2.1 _ t3
  have hk1 : mcx k = 1 := by unfold mcx; rw [if_neg t2]
  refine vx_throwSW (names := exE) C.1 C.2.1 hl C.2.2.2.2.1 t9 (by decide) (C.2.2.2.2.2.1 _ t4) (C.2.2.2.2.2.1 _ t5) hsa (x_hat C X T) t8 X.1 X.2.1 P.2 (hsz.trans C.2.2.1.symm) d0 d3 d4 d6 d9 (fun x hx => (E0 x hx).elim) hR.1 hR.2 ?_ ?_ C.2.2.2.2.2.2.2.1 (fun t _ h1 h2 => x_hx P t1 t2 t h1 h2) P.2.2.2 ?_ ?_ <;> show _ ≤ _ <;> simp [rmx, hk1]
theorem callB_X (C : Cx G own cc nL ret p s m args meth c) {st : Bool} {idx : Nat} {y : MethodName} {bytes : ByteArray} {maxL : Nat} {rt : Option FieldType} {n : Nat} (F : CallF st own idx y bytes maxL rt n) {rm : Room} (hR : rm.frames + 1 ≤ R.frames ∧ 8 + (maxL + 11) + rm.locals ≤ R.locals) : CallB R s args own idx y bytes maxL rt (Cond.code y bytes maxL rt :: WT) rm rm.cells rm.slots n := by
  obtain ⟨f1, f2, f3, f4, f5, f6⟩ := F
  have hts := C.2.2.2.2.2.1
  refine ⟨rfl, rfl, hR.1, hR.2, fun w hw a' U hW => ?_, List.mem_cons_self, hts _ f4, hts _ f3, f5, fun sig h => ?_, hts _ f1⟩
  · have hw2 : w ∈ WT := by
      rcases List.mem_cons.mp hw with h | h
      · rw [h]; exact f4
      · exact h
    exact word_at hW (wt_good w hw2) (hts w hw2)
  · rw [h] at f6
    exact (Option.some.inj f6).symm
theorem preX_S (C : Cx G own cc nL ret p s m args meth c) (X : XF G s) (P : Hp G o s H locs) {As : List Value} : PreS s H (va_Pc As (PreX G o)) As := ⟨fun a U g mk q => ⟨q.1, ⟨q.2.1.1, va_K.moved (u := U) (U := U.calling g mk a) (Vm.Alike.refl U.vm) q.2.1.2.1, q.2.1.2.2⟩, q.2.2.calling⟩, fun U hU hW => ⟨rfl, ⟨by rw [hU]; exact P.1, va_K.moved hW.alike C.2.2.2.2.2.2.1, by rw [hU]; exact Nat.le_trans C.2.2.2.2.2.2.2.2 P.2.1⟩, X.to P.2 hU hW⟩⟩
theorem x_call (C : Cx G own cc nL ret p s m args meth c) (E0 : Cex c) {rm : Room} {st0 : List Value} {a : Array Value} {β γ : Type} {z0 : γ} {q9 : Nat × γ} {o9 : OM} {rv rv9 : Option Value} {q : Nat × β} {o1 : OM} {K : β → OM → Option ((Nat × γ) × OM)}
    (hr : vx_Run p l e (rmx rm q9.1) s m args below meth c H locs 0 0 (mcx q.1) (6 * mcx q.1) (F0 m pc ls st0) rest (QxC G q.1 rv o1 a) (XxC G q.1 o1) (fr G)) (P : Hp G o s H locs) (hf : (if q.1 = 0 then K q.2 o1 else some ((q.1, z0), o1)) = some (q9, o9))
    (kk : ∀ H1 L1, Hp G o1 s H1 L1 → K q.2 o1 = some (q9, o9) → W p l e (rmx rm q9.1) s m args below meth c H1 L1 0 0 (Qxm G q9.1 rv9 o9 below args s) (F0 m (pc + 3) ls (rv.toList ++ rest))) : W p l e (rmx rm q9.1) s m args below meth c H locs 0 0 (Qxm G q9.1 rv9 o9 below args s) (F0 m pc ls st0) := by
  intro T hT X
  rcases hr T hT X with ⟨v, st₀, t, T', L, h0, X', hL, e1, e2, ⟨hc0, hv, hP1, hz, hk⟩, st⟩ | ⟨qa, st₀, t, T', L, E, ce, h0, X', hL, e1, e2, ⟨hE, hc0, hP1, hz, hk⟩, hcell, hvm, hcl, st⟩
  · cases hv
    rw [h0] at hz hk
    have hS : va_S (fr G) s.heap T'.heap (locs ++ L) := ⟨Nat.le_trans P.2.1 (by rw [e1]; exact hz), fun q h1 h2 => by rw [e1, hk q (Nat.lt_of_lt_of_le h1 P.2.1) h2]; exact P.2.2.1 q h1 h2, fun q hq => by
      rcases List.mem_append.mp hq with h | h
      · exact P.2.2.2 q h
      · exact hL q h⟩
    have hm0 : mcx q.1 = 0 := by rw [hc0]; rfl
    rw [hm0] at X'
    rw [if_pos hc0] at hf
    obtain ⟨t2, a1, b1⟩ := kk T'.heap (locs ++ L) ⟨by rw [e1]; exact hP1, hS⟩ hf T' rfl X'
    exact ⟨t2, st t2 a1, b1⟩
  · rw [h0] at hz hk
    rw [if_neg hc0] at hf
    cases hf
    have hS : va_S (fr G) s.heap T'.heap (locs ++ L) := ⟨Nat.le_trans P.2.1 (by rw [e1]; exact hz), fun q h1 h2 => by rw [e1, hk q (Nat.lt_of_lt_of_le h1 P.2.1) h2]; exact P.2.2.1 q h1 h2, fun q hq => by
      rcases List.mem_append.mp hq with h | h
      · exact P.2.2.2 q h
      · exact hL q h⟩
    have hP2 : Hp G o9 s T'.heap (locs ++ L) := ⟨by rw [e1]; exact hP1, hS⟩
    obtain ⟨t2, a1, b1⟩ := vx_out (Qc := QxC G q.1 rv9 o9) (XC := XxC G q.1 o9) (mc := mcx q.1) (ms := 6 * mcx q.1) (pc := pc) (ls := ls) (rest := rest) (e := e) (p := p) (l := l) (R := rmx rm q.1) (meth := meth) (below := below) (free := fr G) (locs := locs ++ L) (cells := 0 + mcx q.1) (slots := 0 + 6 * mcx q.1) (H := T'.heap) (fun x hx => (E0 x hx).elim) C.2.2.2.2.2.2.2.1 (by rw [e1]; exact hcell) hvm hcl (fun t' ht' _ => ⟨hE, hc0, by rw [ht']; exact hP2.1, hP2.2.F ht'⟩) hS.2.2 (by omega) (by omega) T' rfl X'
    exact ⟨t2, st.trans a1, b1⟩
theorem x_cVi (C : Cx G own cc nL ret p s m args meth c) (E0 : Cex c) (X : XF G s) (P : Hp G o s H locs) {idx : Nat} {y : MethodName} {bytes : ByteArray} {maxL n : Nat} {rt : Option FieldType} (F : CallF false own idx y bytes maxL rt n) {rm rm9 : Room} (k i : Nat) {ci : Nat} {qc : vw_C} (hc : ∀ f x, ∃ fs, cl0 G k i f x = .inr (ci, fs)) (hq : vwCl[ci]? = some qc) (hy : y.cls = qc.1) (hk : okb k i = true) (As rest : List Value) {st0 : List Value} {γ : Type} {z0 : γ} {FF : Option ((Nat × Int32) × OM)} {K : Int32 → OM → Option ((Nat × γ) × OM)} {q9 : Nat × γ} {o9 : OM} {rv9 : Option Value} (hf : bx FF z0 K = some (q9, o9))
    (hM : ∀ q o1, FF = some (q, o1) → Cte l y bytes maxL rt rm G (.ref (rA G k i) :: As) o q.1 (some (.int q.2)) o1) (hR : rm.frames + 1 ≤ rm9.frames ∧ 8 + (maxL + 11) + rm.locals ≤ rm9.locals) (hn : As.length = n) (hst : st0 = As.reverse ++ .ref (rA G k i) :: rest) (hsz : ls.size = nL) (hw : (rest.map fun v => v.category).sum ≤ 8) (d : Dc cc pc (.invokevirtual idx) 3 pc')
    (kk : ∀ v o1 H1 L1, Hp G o1 s H1 L1 → K v o1 = some (q9, o9) → W p l e (rmx rm9 q9.1) s m args below meth c H1 L1 0 0 (Qxm G q9.1 rv9 o9 below args s) (F0 m pc' ls (.int v :: rest))) : W p l e (rmx rm9 q9.1) s m args below meth c H locs 0 0 (Qxm G q9.1 rv9 o9 below args s) (F0 m pc ls st0) := by
  obtain ⟨d1, rfl⟩ := d
  obtain ⟨q, o1, g1, g2⟩ := bn_s hf
  have hM' := hM q o1 g1
  have hb := callB_X (R := rmx rm9 q9.1) C F (rm := rmx rm q.1) hR
  have hb' := F.2.1
  rw [if_neg (by decide)] at hb'
  have hts := C.2.2.2.2.2.1
  obtain ⟨fs, hfs⟩ := hc (o.1 k i) (o.2 k)
  have ha : (WS G o)[adr k i]? = some (rA G k i, .inr (ci, fs)) := (WS_at hk).trans (by unfold cel; rw [hfs])
  have hv := va_recv C.2.2.2.2.2.2.1 P.1 hq ha
  rw [← hy] at hv
  have hp := preX_S C X P (As := .ref (rA G k i) :: As)
  have hle : mcx q.1 ≤ mcx q9.1 := by
    by_cases h0 : q.1 = 0
    · rw [h0]; exact Nat.zero_le _
    · rw [if_neg h0] at g2; cases g2; exact Nat.le_refl _
  exact x_call C E0 (vx_runV (C := y.cls) (b := rA G k i) (As := As) (rest := rest) ⟨C.1, C.2.1, C.2.2.1, C.2.2.2.2.1, hts⟩ hM' ⟨hb, hts _ hb'.1, hts _ hb'.2⟩ ⟨hp.1, hv, hp.2⟩ rfl hn hsz hst (lv_room hw) d1 ⟨by show 0 + mcx q.1 ≤ mcx q9.1; omega, by show 0 + 6 * mcx q.1 ≤ 6 * mcx q9.1; omega⟩) P g2 (fun H1 L1 h1 h2 => kk q.2 o1 H1 L1 h1 h2)
theorem x_cSi (C : Cx G own cc nL ret p s m args meth c) (E0 : Cex c) (X : XF G s) (P : Hp G o s H locs) {idx : Nat} {y : MethodName} {bytes : ByteArray} {maxL n : Nat} {rt : Option FieldType} (F : CallF true own idx y bytes maxL rt n) {rm rm9 : Room} (As rest : List Value) {st0 : List Value} {γ : Type} {z0 : γ} {FF : Option ((Nat × Int32) × OM)} {K : Int32 → OM → Option ((Nat × γ) × OM)} {q9 : Nat × γ} {o9 : OM} {rv9 : Option Value} (hf : bx FF z0 K = some (q9, o9))
    (hM : ∀ q o1, FF = some (q, o1) → Cte l y bytes maxL rt rm G As o q.1 (some (.int q.2)) o1) (hR : rm.frames + 1 ≤ rm9.frames ∧ 8 + (maxL + 11) + rm.locals ≤ rm9.locals) (hn : As.length = n) (hst : st0 = As.reverse ++ rest) (hsz : ls.size = nL) (hw : (rest.map fun v => v.category).sum ≤ 8) (d : Dc cc pc (.invokestatic idx) 3 pc')
    (kk : ∀ v o1 H1 L1, Hp G o1 s H1 L1 → K v o1 = some (q9, o9) → W p l e (rmx rm9 q9.1) s m args below meth c H1 L1 0 0 (Qxm G q9.1 rv9 o9 below args s) (F0 m pc' ls (.int v :: rest))) : W p l e (rmx rm9 q9.1) s m args below meth c H locs 0 0 (Qxm G q9.1 rv9 o9 below args s) (F0 m pc ls st0) := by
  obtain ⟨d1, rfl⟩ := d
  obtain ⟨q, o1, g1, g2⟩ := bn_s hf
  have hM' := hM q o1 g1
  have hb := callB_X (R := rmx rm9 q9.1) C F (rm := rmx rm q.1) hR
  have hb' := F.2.1
  rw [if_pos rfl] at hb'
  have hts := C.2.2.2.2.2.1
  have hp := preX_S C X P (As := As)
  have hle : mcx q.1 ≤ mcx q9.1 := by
    by_cases h0 : q.1 = 0
    · rw [h0]; exact Nat.zero_le _
    · rw [if_neg h0] at g2; cases g2; exact Nat.le_refl _
  exact x_call C E0 (vx_runS (As := As) (rest := rest) ⟨C.1, C.2.1, C.2.2.1, C.2.2.2.2.1, hts⟩ hM' ⟨hb, hts _ hb'⟩ hp rfl hn hsz hst (lv_room hw) d1 ⟨by show 0 + mcx q.1 ≤ mcx q9.1; omega, by show 0 + 6 * mcx q.1 ≤ 6 * mcx q9.1; omega⟩) P g2 (fun H1 L1 h1 h2 => kk q.2 o1 H1 L1 h1 h2)
theorem x_cVl (C : Cx G own cc nL ret p s m args meth c) (E0 : Cex c) (X : XF G s) (P : Hp G o s H locs) {idx : Nat} {y : MethodName} {bytes : ByteArray} {maxL n : Nat} {rt : Option FieldType} (F : CallF false own idx y bytes maxL rt n) {rm rm9 : Room} (k i : Nat) {ci : Nat} {qc : vw_C} (hc : ∀ f x, ∃ fs, cl0 G k i f x = .inr (ci, fs)) (hq : vwCl[ci]? = some qc) (hy : y.cls = qc.1) (hk : okb k i = true) (As rest : List Value) {st0 : List Value} {γ : Type} {z0 : γ} {FF : Option ((Nat × Int64) × OM)} {K : Int64 → OM → Option ((Nat × γ) × OM)} {q9 : Nat × γ} {o9 : OM} {rv9 : Option Value} (hf : bx FF z0 K = some (q9, o9))
    (hM : ∀ q o1, FF = some (q, o1) → Cte l y bytes maxL rt rm G (.ref (rA G k i) :: As) o q.1 (some (.long q.2)) o1) (hR : rm.frames + 1 ≤ rm9.frames ∧ 8 + (maxL + 11) + rm.locals ≤ rm9.locals) (hn : As.length = n) (hst : st0 = As.reverse ++ .ref (rA G k i) :: rest) (hsz : ls.size = nL) (hw : (rest.map fun v => v.category).sum ≤ 8) (d : Dc cc pc (.invokevirtual idx) 3 pc')
    (kk : ∀ v o1 H1 L1, Hp G o1 s H1 L1 → K v o1 = some (q9, o9) → W p l e (rmx rm9 q9.1) s m args below meth c H1 L1 0 0 (Qxm G q9.1 rv9 o9 below args s) (F0 m pc' ls (.long v :: rest))) : W p l e (rmx rm9 q9.1) s m args below meth c H locs 0 0 (Qxm G q9.1 rv9 o9 below args s) (F0 m pc ls st0) := by
  obtain ⟨d1, rfl⟩ := d
  obtain ⟨q, o1, g1, g2⟩ := bn_s hf
  have hM' := hM q o1 g1
  have hb := callB_X (R := rmx rm9 q9.1) C F (rm := rmx rm q.1) hR
  have hb' := F.2.1
  rw [if_neg (by decide)] at hb'
  have hts := C.2.2.2.2.2.1
  obtain ⟨fs, hfs⟩ := hc (o.1 k i) (o.2 k)
  have ha : (WS G o)[adr k i]? = some (rA G k i, .inr (ci, fs)) := (WS_at hk).trans (by unfold cel; rw [hfs])
  have hv := va_recv C.2.2.2.2.2.2.1 P.1 hq ha
  rw [← hy] at hv
  have hp := preX_S C X P (As := .ref (rA G k i) :: As)
  have hle : mcx q.1 ≤ mcx q9.1 := by
    by_cases h0 : q.1 = 0
    · rw [h0]; exact Nat.zero_le _
    · rw [if_neg h0] at g2; cases g2; exact Nat.le_refl _
  exact x_call C E0 (vx_runV (C := y.cls) (b := rA G k i) (As := As) (rest := rest) ⟨C.1, C.2.1, C.2.2.1, C.2.2.2.2.1, hts⟩ hM' ⟨hb, hts _ hb'.1, hts _ hb'.2⟩ ⟨hp.1, hv, hp.2⟩ rfl hn hsz hst (lv_room hw) d1 ⟨by show 0 + mcx q.1 ≤ mcx q9.1; omega, by show 0 + 6 * mcx q.1 ≤ 6 * mcx q9.1; omega⟩) P g2 (fun H1 L1 h1 h2 => kk q.2 o1 H1 L1 h1 h2)
theorem x_cSl (C : Cx G own cc nL ret p s m args meth c) (E0 : Cex c) (X : XF G s) (P : Hp G o s H locs) {idx : Nat} {y : MethodName} {bytes : ByteArray} {maxL n : Nat} {rt : Option FieldType} (F : CallF true own idx y bytes maxL rt n) {rm rm9 : Room} (As rest : List Value) {st0 : List Value} {γ : Type} {z0 : γ} {FF : Option ((Nat × Int64) × OM)} {K : Int64 → OM → Option ((Nat × γ) × OM)} {q9 : Nat × γ} {o9 : OM} {rv9 : Option Value} (hf : bx FF z0 K = some (q9, o9))
    (hM : ∀ q o1, FF = some (q, o1) → Cte l y bytes maxL rt rm G As o q.1 (some (.long q.2)) o1) (hR : rm.frames + 1 ≤ rm9.frames ∧ 8 + (maxL + 11) + rm.locals ≤ rm9.locals) (hn : As.length = n) (hst : st0 = As.reverse ++ rest) (hsz : ls.size = nL) (hw : (rest.map fun v => v.category).sum ≤ 8) (d : Dc cc pc (.invokestatic idx) 3 pc')
    (kk : ∀ v o1 H1 L1, Hp G o1 s H1 L1 → K v o1 = some (q9, o9) → W p l e (rmx rm9 q9.1) s m args below meth c H1 L1 0 0 (Qxm G q9.1 rv9 o9 below args s) (F0 m pc' ls (.long v :: rest))) : W p l e (rmx rm9 q9.1) s m args below meth c H locs 0 0 (Qxm G q9.1 rv9 o9 below args s) (F0 m pc ls st0) := by
  obtain ⟨d1, rfl⟩ := d
  obtain ⟨q, o1, g1, g2⟩ := bn_s hf
  have hM' := hM q o1 g1
  have hb := callB_X (R := rmx rm9 q9.1) C F (rm := rmx rm q.1) hR
  have hb' := F.2.1
  rw [if_pos rfl] at hb'
  have hts := C.2.2.2.2.2.1
  have hp := preX_S C X P (As := As)
  have hle : mcx q.1 ≤ mcx q9.1 := by
    by_cases h0 : q.1 = 0
    · rw [h0]; exact Nat.zero_le _
    · rw [if_neg h0] at g2; cases g2; exact Nat.le_refl _
  exact x_call C E0 (vx_runS (As := As) (rest := rest) ⟨C.1, C.2.1, C.2.2.1, C.2.2.2.2.1, hts⟩ hM' ⟨hb, hts _ hb'⟩ hp rfl hn hsz hst (lv_room hw) d1 ⟨by show 0 + mcx q.1 ≤ mcx q9.1; omega, by show 0 + 6 * mcx q.1 ≤ 6 * mcx q9.1; omega⟩) P g2 (fun H1 L1 h1 h2 => kk q.2 o1 H1 L1 h1 h2)
theorem x_cVv (C : Cx G own cc nL ret p s m args meth c) (E0 : Cex c) (X : XF G s) (P : Hp G o s H locs) {idx : Nat} {y : MethodName} {bytes : ByteArray} {maxL n : Nat} {rt : Option FieldType} (F : CallF false own idx y bytes maxL rt n) {rm rm9 : Room} (k i : Nat) {ci : Nat} {qc : vw_C} (hc : ∀ f x, ∃ fs, cl0 G k i f x = .inr (ci, fs)) (hq : vwCl[ci]? = some qc) (hy : y.cls = qc.1) (hk : okb k i = true) (As rest : List Value) {st0 : List Value} {γ : Type} {z0 : γ} {FF : Option ((Nat × Unit) × OM)} {K : Unit → OM → Option ((Nat × γ) × OM)} {q9 : Nat × γ} {o9 : OM} {rv9 : Option Value} (hf : bx FF z0 K = some (q9, o9))
    (hM : ∀ q o1, FF = some (q, o1) → Cte l y bytes maxL rt rm G (.ref (rA G k i) :: As) o q.1 none o1) (hR : rm.frames + 1 ≤ rm9.frames ∧ 8 + (maxL + 11) + rm.locals ≤ rm9.locals) (hn : As.length = n) (hst : st0 = As.reverse ++ .ref (rA G k i) :: rest) (hsz : ls.size = nL) (hw : (rest.map fun v => v.category).sum ≤ 8) (d : Dc cc pc (.invokevirtual idx) 3 pc')
    (kk : ∀ v o1 H1 L1, Hp G o1 s H1 L1 → K v o1 = some (q9, o9) → W p l e (rmx rm9 q9.1) s m args below meth c H1 L1 0 0 (Qxm G q9.1 rv9 o9 below args s) (F0 m pc' ls (rest))) : W p l e (rmx rm9 q9.1) s m args below meth c H locs 0 0 (Qxm G q9.1 rv9 o9 below args s) (F0 m pc ls st0) := by
  obtain ⟨d1, rfl⟩ := d
  obtain ⟨q, o1, g1, g2⟩ := bn_s hf
  have hM' := hM q o1 g1
  have hb := callB_X (R := rmx rm9 q9.1) C F (rm := rmx rm q.1) hR
  have hb' := F.2.1
  rw [if_neg (by decide)] at hb'
  have hts := C.2.2.2.2.2.1
  obtain ⟨fs, hfs⟩ := hc (o.1 k i) (o.2 k)
  have ha : (WS G o)[adr k i]? = some (rA G k i, .inr (ci, fs)) := (WS_at hk).trans (by unfold cel; rw [hfs])
  have hv := va_recv C.2.2.2.2.2.2.1 P.1 hq ha
  rw [← hy] at hv
  have hp := preX_S C X P (As := .ref (rA G k i) :: As)
  have hle : mcx q.1 ≤ mcx q9.1 := by
    by_cases h0 : q.1 = 0
    · rw [h0]; exact Nat.zero_le _
    · rw [if_neg h0] at g2; cases g2; exact Nat.le_refl _
  exact x_call C E0 (vx_runV (C := y.cls) (b := rA G k i) (As := As) (rest := rest) ⟨C.1, C.2.1, C.2.2.1, C.2.2.2.2.1, hts⟩ hM' ⟨hb, hts _ hb'.1, hts _ hb'.2⟩ ⟨hp.1, hv, hp.2⟩ rfl hn hsz hst (lv_room hw) d1 ⟨by show 0 + mcx q.1 ≤ mcx q9.1; omega, by show 0 + 6 * mcx q.1 ≤ 6 * mcx q9.1; omega⟩) P g2 (fun H1 L1 h1 h2 => kk q.2 o1 H1 L1 h1 h2)
theorem x_cSv (C : Cx G own cc nL ret p s m args meth c) (E0 : Cex c) (X : XF G s) (P : Hp G o s H locs) {idx : Nat} {y : MethodName} {bytes : ByteArray} {maxL n : Nat} {rt : Option FieldType} (F : CallF true own idx y bytes maxL rt n) {rm rm9 : Room} (As rest : List Value) {st0 : List Value} {γ : Type} {z0 : γ} {FF : Option ((Nat × Unit) × OM)} {K : Unit → OM → Option ((Nat × γ) × OM)} {q9 : Nat × γ} {o9 : OM} {rv9 : Option Value} (hf : bx FF z0 K = some (q9, o9))
    (hM : ∀ q o1, FF = some (q, o1) → Cte l y bytes maxL rt rm G As o q.1 none o1) (hR : rm.frames + 1 ≤ rm9.frames ∧ 8 + (maxL + 11) + rm.locals ≤ rm9.locals) (hn : As.length = n) (hst : st0 = As.reverse ++ rest) (hsz : ls.size = nL) (hw : (rest.map fun v => v.category).sum ≤ 8) (d : Dc cc pc (.invokestatic idx) 3 pc')
    (kk : ∀ v o1 H1 L1, Hp G o1 s H1 L1 → K v o1 = some (q9, o9) → W p l e (rmx rm9 q9.1) s m args below meth c H1 L1 0 0 (Qxm G q9.1 rv9 o9 below args s) (F0 m pc' ls (rest))) : W p l e (rmx rm9 q9.1) s m args below meth c H locs 0 0 (Qxm G q9.1 rv9 o9 below args s) (F0 m pc ls st0) := by
  obtain ⟨d1, rfl⟩ := d
  obtain ⟨q, o1, g1, g2⟩ := bn_s hf
  have hM' := hM q o1 g1
  have hb := callB_X (R := rmx rm9 q9.1) C F (rm := rmx rm q.1) hR
  have hb' := F.2.1
  rw [if_pos rfl] at hb'
  have hts := C.2.2.2.2.2.1
  have hp := preX_S C X P (As := As)
  have hle : mcx q.1 ≤ mcx q9.1 := by
    by_cases h0 : q.1 = 0
    · rw [h0]; exact Nat.zero_le _
    · rw [if_neg h0] at g2; cases g2; exact Nat.le_refl _
  exact x_call C E0 (vx_runS (As := As) (rest := rest) ⟨C.1, C.2.1, C.2.2.1, C.2.2.2.2.1, hts⟩ hM' ⟨hb, hts _ hb'⟩ hp rfl hn hsz hst (lv_room hw) d1 ⟨by show 0 + mcx q.1 ≤ mcx q9.1; omega, by show 0 + 6 * mcx q.1 ≤ 6 * mcx q9.1; omega⟩) P g2 (fun H1 L1 h1 h2 => kk q.2 o1 H1 L1 h1 h2)
theorem gs_25 (C : Cx G RX5 cc nL ret p s m args meth c) (X : XF G s) (P : Hp G o s H locs) {idx : Nat} (hw : Cond.fieldLink RX5 idx "ThawPoints" "SETTING_LIMITS" "[I" ∈ WT) (d : Dc cc pc (.getstatic idx) 3 pc') (kk : W p l e R s m args below meth c H locs cells slots Q (F0 m pc' ls (.ref (aL G) :: rest))) : W p l e R s m args below meth c H locs cells slots Q (F0 m pc ls rest) := by
  obtain ⟨d1, rfl⟩ := d
  exact va_gets (ref := "ThawPoints") C.1 C.2.1 X.2.2.2.2.1 P.2 C.2.2.2.2.1 (C.2.2.2.2.2.1 _ hw) (fun _ h9 => h9) d1 kk
theorem sld_25 (C : Cx G own cc nL ret p s m args meth c) (X : XF G s) (P : Hp G o s H locs) {x : Int32} (d : Dc cc pc .iaload 1 pc') {α : Type} {K : Option α} {z : α} (hf : grd (inB x 7) K = some z) (kk : K = some z → W p l e R s m args below meth c H locs cells slots Q (F0 m pc' ls (.int (fSL x.toNatClampNeg) :: rest))) : W p l e R s m args below meth c H locs cells slots Q (F0 m pc ls (.int x :: .ref (aL G) :: rest)) := by
  obtain ⟨d1, rfl⟩ := d
  obtain ⟨g1, g2⟩ := grd_s hf
  exact va_sld C.1 C.2.1 X.2.2.2.2.2.1 X.2.2.2.2.2.2.1 X.2.2.2.2.2.2.2 P.2 (inB_in g1) d1 (kk g2)
theorem slen_25 (C : Cx G own cc nL ret p s m args meth c) (X : XF G s) (P : Hp G o s H locs) (d : Dc cc pc .arraylength 1 pc') (kk : W p l e R s m args below meth c H locs cells slots Q (F0 m pc' ls (.int 7 :: rest))) : W p l e R s m args below meth c H locs cells slots Q (F0 m pc ls (.ref (aL G) :: rest)) := by
  obtain ⟨d1, rfl⟩ := d
  exact va_slen C.1 C.2.1 X.2.2.2.2.2.1 X.2.2.2.2.2.2.1 X.2.2.2.2.2.2.2 P.2 d1 kk
end XR
theorem th_1a : ∀ w ∈ (vx_atS RX5 41 "java/lang/IllegalArgumentException" exE).filter goodWord, w ∈ WT := by decide +kernel
theorem th_1b : ∀ w ∈ (vx_atS RX5 41 "java/lang/IllegalArgumentException" exE).filter (fun w => !goodWord w), w ∈ NB := by decide +kernel
theorem th_1c : ∀ w ∈ Cond.classLink RX5 37 "java/lang/IllegalArgumentException" :: Cond.initialized "java/lang/IllegalArgumentException" :: vx_atS RX5 41 "java/lang/IllegalArgumentException" exE, vx_ot w = true := by decide +kernel
theorem th_2a : ∀ w ∈ (vx_atS RX5 52 "java/lang/IllegalStateException" exE).filter goodWord, w ∈ WT := by decide +kernel
theorem th_2b : ∀ w ∈ (vx_atS RX5 52 "java/lang/IllegalStateException" exE).filter (fun w => !goodWord w), w ∈ NB := by decide +kernel
theorem th_2c : ∀ w ∈ Cond.classLink RX5 48 "java/lang/IllegalStateException" :: Cond.initialized "java/lang/IllegalStateException" :: vx_atS RX5 52 "java/lang/IllegalStateException" exE, vx_ot w = true := by decide +kernel
theorem th_3a : ∀ w ∈ (vx_atS RX5 107 "java/lang/IndexOutOfBoundsException" exE).filter goodWord, w ∈ WT := by decide +kernel
theorem th_3b : ∀ w ∈ (vx_atS RX5 107 "java/lang/IndexOutOfBoundsException" exE).filter (fun w => !goodWord w), w ∈ NB := by decide +kernel
theorem th_3c : ∀ w ∈ Cond.classLink RX5 103 "java/lang/IndexOutOfBoundsException" :: Cond.initialized "java/lang/IndexOutOfBoundsException" :: vx_atS RX5 107 "java/lang/IndexOutOfBoundsException" exE, vx_ot w = true := by decide +kernel
