/-! the law's own methods: a call of the class, its exceptions caught and numbered -/
def NCW : List (String × String) := [("java/lang/IllegalArgumentException", "java/lang/IllegalStateException"), ("java/lang/IllegalArgumentException", "java/lang/IndexOutOfBoundsException"), ("java/lang/IllegalStateException", "java/lang/IllegalArgumentException"), ("java/lang/IllegalStateException", "java/lang/IndexOutOfBoundsException"), ("java/lang/IndexOutOfBoundsException", "java/lang/IllegalArgumentException"), ("java/lang/IndexOutOfBoundsException", "java/lang/IllegalStateException")]
def XWA (A : Nat → Prop) (aLG : Nat) (U : State) : Prop := XFA A aLG U ∧ ∀ q ∈ NCW, va_Nc q.1 q.2 U
abbrev XW (G : Gd) (U : State) : Prop := XWA (fr G) (aL G) U
theorem XWA.narrow {A B : Nat → Prop} {aLG : Nat} {U : State} (h : XWA A aLG U) (hAB : ∀ q, B q → A q) : XWA B aLG U := ⟨h.1.narrow hAB, h.2⟩
theorem XWA.to {A : Nat → Prop} {aLG : Nat} {s U : State} {H : Heap} {locs : List Loc} (h : XWA A aLG s) (hS : va_S A s.heap H locs) (hU : U.heap = H) (hW : s.WarmedH U.vm) : XWA A aLG U := ⟨h.1.to hS hU hW, fun q hq => (h.2 q hq).moved hW.alike⟩
theorem XWA.calling {A : Nat → Prop} {aLG : Nat} {U : State} {g : JFrame} {mk : MethodId} {a : Array Value} (h : XWA A aLG U) : XWA A aLG (U.calling g mk a) := ⟨h.1.calling, fun q hq => (h.2 q hq).moved (U := U.calling g mk a) (Vm.Alike.refl U.vm)⟩
theorem XWA.F {G : Gd} {U : State} (h : XW G U) : XF G U := h.1
def PreW (G : Gd) (o : OM) (U : State) : Prop := PreG G o U ∧ XW G U
def QcW (G : Gd) (k : Int32) (o' : OM) : Array Value → State → Outcome → State → Prop := QcG G (some (.int k)) o'
abbrev XF0 : String → State → State → Prop := fun _ _ _ => False
abbrev Ctw (l : Launch) (y : MethodName) (cc : ByteArray) (maxL : Nat) (hh : List (Nat × Nat × Nat × Nat)) (rm : Room) (G : Gd) (As : List Value) (o : OM) (code : Nat) (k : Int32) (o' : OM) : Prop :=
  vx_Met l y (Cond.codeWith y cc maxL (some .int) hh :: WT) (rmx rm code) (va_Pc As (PreW G o)) (QcW G k o') XF0 (mcx code) (6 * mcx code) (fr G)
abbrev Qwm (G : Gd) (code : Nat) (k : Int32) (o' : OM) (below : List Frame) (args : Array Value) (s : State) : State → Prop := vx_MQ below (QcW G k o') XF0 args s (mcx code) (6 * mcx code) (fr G)
theorem ctw_of {l : Launch} {y : MethodName} {cc : ByteArray} {maxL : Nat} {hh : List (Nat × Nat × Nat × Nat)} {rm : Room} {G : Gd} {As : List Value} {o : OM} {code : Nat} {k : Int32} {o' : OM} (hy : plainName y.cls = true) (hl : (lg_sl As).length ≤ maxL)
    (body : ∀ p e s m below meth c ls, Cx G y.cls cc maxL (some .int) p s m As.toArray meth c → c.exceptionTable.toList = tableOf hh → XW G s → Hp G o s s.heap [] → lv_has ls maxL (lv_args 0 As) →
      W p l e (rmx rm code) s m As.toArray below meth c s.heap [] 0 0 (Qwm G code k o' below As.toArray s) (F0 m 0 ls [])) : Ctw l y cc maxL hh rm G As o code k o' := by
  refine vx_ofWH (cc := cc) (maxL := maxL) (ret := some .int) (hh := hh) hy rfl ?_
  intro p e s m args below meth c s₁ B hml hv
  obtain ⟨rfl, ⟨hP, hK, hz⟩, hX⟩ := hv
  have hts := atoms_spec (ws := Cond.codeWith y cc maxL (some .int) hh :: WT) B.pre
  have hC : Cx G y.cls cc maxL (some .int) p s m As.toArray meth c := ⟨B.exec, B.bytes, hml, B.returns, findClass_of_methodNamed B.named, fun w hw => hts w (List.mem_cons_of_mem _ hw), hK, B.notSynchronized, hz⟩
  have h := body p e s m below meth c _ hC (vx_table (x := y) B (hts _ List.mem_cons_self)) hX ⟨hP, va_S.rf⟩ (lv_entry As (n := maxL) hl)
  rw [lg_entry_eq]
  exact h
def okc (cs : List Nat) (code : Nat) : Bool := decide (code = 0) || cs.contains code
def wc (code : Nat) : Int32 := if code = 0 then 0 else if code = 3 then 1 else if code = 1 then 2 else 3
def wo (q : Nat × Int32) (o : OM) : OM := if q.1 = 0 then wr o 24 0 0 q.2 else o
def b0 {α β γ : Type} (x : Option ((Nat × α) × β)) (k : α → β → Option γ) : Option γ := bn x (fun q o1 => grd (decide (q.1 = 0)) (k q.2 o1))
theorem out_st (o : OM) (v : Int32) : grd (inB (0 : Int32) 1) (bd (wr o 24 0 (0 : Int32).toNatClampNeg v) (fun o1 => some o1)) = some (wr o 24 0 0 v) := by
  have h : inB (0 : Int32) 1 = true := by decide
  have z : (0 : Int32).toNatClampNeg = 0 := by decide
  unfold grd
  rw [if_pos h, z]
  rfl
section WR
variable {G : Gd} {own : String} {cc : ByteArray} {nL : Nat} {ret : Option FieldType} {p : Program} {l : Launch} {e : Env} {R : Room} {s : State} {m : MethodId} {args : Array Value} {below : List Frame} {meth : Method} {c : Code} {H : Heap} {locs : List Loc} {cells slots : Nat} {Q : State → Prop} {o : OM}
variable {pc pc' : Nat} {ls : Array Slot} {rest : List Value}
theorem preW_S (C : Cx G own cc nL ret p s m args meth c) (X : XW G s) (P : Hp G o s H locs) {As : List Value} : PreS s H (va_Pc As (PreW G o)) As := ⟨fun a U g mk q => ⟨q.1, ⟨q.2.1.1, va_K.moved (u := U) (U := U.calling g mk a) (Vm.Alike.refl U.vm) q.2.1.2.1, q.2.1.2.2⟩, q.2.2.calling⟩, fun U hU hW => ⟨rfl, ⟨by rw [hU]; exact P.1, va_K.moved hW.alike C.2.2.2.2.2.2.1, by rw [hU]; exact Nat.le_trans C.2.2.2.2.2.2.2.2 P.2.1⟩, X.to P.2 hU hW⟩⟩
theorem w_iret (C : Cx G own cc nL (some .int) p s m args meth c) (P : Hp G o s H locs) {x : Int32} {code : Nat} (hz : cells = mcx code ∧ slots = 6 * mcx code) (d : Dc cc pc .ireturn 1 pc') : W p l e R s m args below meth c H locs cells slots (Qwm G code x o below args s) (F0 m pc ls [.int x]) := by
  have hlocks : meth.locks = false := C.2.2.2.2.2.2.2.1
  obtain ⟨rfl, rfl⟩ := hz
  exact vx_ret (W.iret C.1 C.2.1 C.2.2.2.1 (fun t ht _ => ⟨rfl, by rw [ht]; exact P.1, P.2.F ht⟩) P.2.2.2 d.1)
theorem w_call (C : Cx G own cc nL ret p s m args meth c) (X : XW G s) (P : Hp G o s H locs) {idx : Nat} {y : MethodName} {bytes : ByteArray} {maxL n : Nat} {rt : Option FieldType} (F : CallF false own idx y bytes maxL rt n) {rm : Room} (hy : y.cls = RX5) (As rest : List Value) {st0 : List Value} {code : Nat} {v : Int32} {o1 : OM}
    (hM : Cte l y bytes maxL rt rm G (.ref (rA G 0 0) :: As) o code (some (.int v)) o1) (hR : rm.frames + 1 ≤ R.frames ∧ 8 + (maxL + 11) + rm.locals ≤ R.locals) (hcs : mcx code ≤ R.cells ∧ 6 * mcx code ≤ R.slots) (hn : As.length = n) (hst : st0 = As.reverse ++ .ref (rA G 0 0) :: rest) (hsz : ls.size = nL) (hw : (rest.map fun v => v.category).sum ≤ 8) (d : Dc cc pc (.invokevirtual idx) 3 pc')
    (kk : ∀ H1 L1, Hp G o1 s H1 L1 → code = 0 → W p l e R s m args below meth c H1 L1 0 0 Q (F0 m pc' ls (.int v :: rest)))
    (kx : ∀ H1 L1 ce qa, Hp G o1 s H1 L1 → code ≠ 0 → H1[qa]? = some ce → ce.vm = .none → s.vm.findClass (exN code) = some ce.cls → vx_W p l e R s m args below meth c H1 L1 (mcx code) (6 * mcx code) Q (F0 m pc ls rest) qa) : W p l e R s m args below meth c H locs 0 0 Q (F0 m pc ls st0) := by
  obtain ⟨d1, rfl⟩ := d
  have hb := callB_X (R := R) C F (rm := rmx rm code) hR
  have hb' := F.2.1
  rw [if_neg (by decide)] at hb'
  have hts := C.2.2.2.2.2.1
  have hv := va_recv (ci := 5) (q := (RX5, TX5, 5)) C.2.2.2.2.2.2.1 P.1 rfl (WS_at (k := 0) (i := 0) rfl)
  have hv : ∃ cell : Cell, H[rA G 0 0]? = some cell ∧ cell.vm.isStatics = false ∧ s.vm.findClass y.cls = some cell.cls := by rw [hy]; exact hv
  have hp := preX_S C X.F P (As := .ref (rA G 0 0) :: As)
  have hr := vx_runV (e := e) (below := below) (meth := meth) (R := R) (H := H) (locs := locs) (cells := 0) (slots := 0) (C := y.cls) (b := rA G 0 0) (As := As) (rest := rest) (g := F0 m pc ls st0) ⟨C.1, C.2.1, C.2.2.1, C.2.2.2.2.1, hts⟩ hM ⟨hb, hts _ hb'.1, hts _ hb'.2⟩ ⟨hp.1, hv, hp.2⟩ rfl hn hsz hst (lv_room hw) d1 ⟨by show 0 + mcx code ≤ _; omega, by show 0 + 6 * mcx code ≤ _; omega⟩
  intro T hT X0
  rcases hr T hT X0 with ⟨v, st₀, t, T', L, h0, X', hL, e1, e2, ⟨hc0, hv, hP1, hz, hk⟩, st⟩ | ⟨qa, st₀, t, T', L, E, ce, h0, X', hL, e1, e2, ⟨hE, hc0, hP1, hz, hk⟩, hcell, hvm, hcl, st⟩
  · cases hv
    rw [h0] at hz hk
    have hS : va_S (fr G) s.heap T'.heap (locs ++ L) := ⟨Nat.le_trans P.2.1 (by rw [e1]; exact hz), fun q h1 h2 => by rw [e1, hk q (Nat.lt_of_lt_of_le h1 P.2.1) h2]; exact P.2.2.1 q h1 h2, fun q hq => by
      rcases List.mem_append.mp hq with h | h
      · exact P.2.2.2 q h
      · exact hL q h⟩
    subst hc0
    obtain ⟨t2, a1, b1⟩ := kk T'.heap (locs ++ L) ⟨by rw [e1]; exact hP1, hS⟩ rfl T' rfl X'
    exact ⟨t2, st t2 a1, b1⟩
  · rw [h0] at hz hk
    have hS : va_S (fr G) s.heap T'.heap (locs ++ L) := ⟨Nat.le_trans P.2.1 (by rw [e1]; exact hz), fun q h1 h2 => by rw [e1, hk q (Nat.lt_of_lt_of_le h1 P.2.1) h2]; exact P.2.2.1 q h1 h2, fun q hq => by
      rcases List.mem_append.mp hq with h | h
      · exact P.2.2.2 q h
      · exact hL q h⟩
    subst hE
    have X2 : Stand p l e R s m args below meth c T' (locs ++ L) (mcx code) (6 * mcx code) := by
      have h1 : 0 + mcx code = mcx code := Nat.zero_add _
      have h2 : 0 + 6 * mcx code = 6 * mcx code := Nat.zero_add _
      rw [h1, h2] at X'
      exact X'
    obtain ⟨t2, a1, b1⟩ := kx T'.heap (locs ++ L) ce qa ⟨by rw [e1]; exact hP1, hS⟩ hc0 (by rw [e1]; exact hcell) hvm hcl T' rfl X2
    exact ⟨t2, st.trans a1, b1⟩
theorem r_ishl (C : Cx G own cc nL ret p s m args meth c) {x y : Int32} (d : Dc cc pc .ishl 1 pc') (kk : W p l e R s m args below meth c H locs cells slots Q (F0 m pc' ls (.int (x <<< (y &&& 31)) :: rest))) : W p l e R s m args below meth c H locs cells slots Q (F0 m pc ls (.int y :: .int x :: rest)) := by
  obtain ⟨d1, rfl⟩ := d
  exact lv_ishl C.1 C.2.1 d1 kk
theorem r_ishr (C : Cx G own cc nL ret p s m args meth c) {x y : Int32} (d : Dc cc pc .ishr 1 pc') (kk : W p l e R s m args below meth c H locs cells slots Q (F0 m pc' ls (.int (x >>> (y &&& 31)) :: rest))) : W p l e R s m args below meth c H locs cells slots Q (F0 m pc ls (.int y :: .int x :: rest)) := by
  obtain ⟨d1, rfl⟩ := d
  exact lv_ishr C.1 C.2.1 d1 kk
theorem r_ior (C : Cx G own cc nL ret p s m args meth c) {x y : Int32} (d : Dc cc pc .ior 1 pc') (kk : W p l e R s m args below meth c H locs cells slots Q (F0 m pc' ls (.int (x ||| y) :: rest))) : W p l e R s m args below meth c H locs cells slots Q (F0 m pc ls (.int y :: .int x :: rest)) := by
  obtain ⟨d1, rfl⟩ := d
  exact lv_ior C.1 C.2.1 d1 kk
/-- a call of the class that is known to return -/
theorem m_cVi (C : Cx G own cc nL ret p s m args meth c) (X : XW G s) (P : Hp G o s H locs) {idx : Nat} {y : MethodName} {bytes : ByteArray} {maxL n : Nat} {rt : Option FieldType} (F : CallF false own idx y bytes maxL rt n) {rm : Room} (hy : y.cls = RX5) (As rest : List Value) {st0 : List Value} {α : Type} {FF : Option ((Nat × Int32) × OM)} {K : Int32 → OM → Option α} {z : α} (hf : b0 FF K = some z)
    (hM : ∀ q o1, FF = some (q, o1) → Cte l y bytes maxL rt rm G (.ref (rA G 0 0) :: As) o q.1 (some (.int q.2)) o1) (hR : rm.frames + 1 ≤ R.frames ∧ 8 + (maxL + 11) + rm.locals ≤ R.locals) (hcs : cells ≤ R.cells ∧ slots ≤ R.slots) (hn : As.length = n) (hst : st0 = As.reverse ++ .ref (rA G 0 0) :: rest) (hsz : ls.size = nL) (hw : (rest.map fun v => v.category).sum ≤ 8) (d : Dc cc pc (.invokevirtual idx) 3 pc')
    (kk : ∀ v o1 H1 L1, Hp G o1 s H1 L1 → K v o1 = some z → W p l e R s m args below meth c H1 L1 cells slots Q (F0 m pc' ls (.int v :: rest))) : W p l e R s m args below meth c H locs cells slots Q (F0 m pc ls st0) := by
  obtain ⟨d1, rfl⟩ := d
  obtain ⟨q, o1, g3, g4⟩ := bn_s hf
  obtain ⟨g5, g2⟩ := grd_s g4
  have hq : q.1 = 0 := of_decide_eq_true g5
  have hM := hM q o1 g3
  have hm0 : mcx q.1 = 0 := by rw [hq]; rfl
  have hb := callB_X (R := R) C F (rm := rmx rm q.1) hR
  have hb' := F.2.1
  rw [if_neg (by decide)] at hb'
  have hts := C.2.2.2.2.2.1
  have hv := va_recv (ci := 5) (q := (RX5, TX5, 5)) C.2.2.2.2.2.2.1 P.1 rfl (WS_at (k := 0) (i := 0) rfl)
  have hv : ∃ cell : Cell, H[rA G 0 0]? = some cell ∧ cell.vm.isStatics = false ∧ s.vm.findClass y.cls = some cell.cls := by rw [hy]; exact hv
  have hp := preX_S C X.F P (As := .ref (rA G 0 0) :: As)
  have hr := vx_runV (e := e) (below := below) (meth := meth) (R := R) (H := H) (locs := locs) (cells := cells) (slots := slots) (C := y.cls) (b := rA G 0 0) (As := As) (rest := rest) (g := F0 m pc ls st0) ⟨C.1, C.2.1, C.2.2.1, C.2.2.2.2.1, hts⟩ hM ⟨hb, hts _ hb'.1, hts _ hb'.2⟩ ⟨hp.1, hv, hp.2⟩ rfl hn hsz hst (lv_room hw) d1 ⟨by rw [hm0]; exact hcs.1, by rw [hm0]; exact hcs.2⟩
  rw [hm0] at hr
  intro T hT X0
  rcases hr T hT X0 with ⟨v, st₀, t, T', L, h0, X', hL, e1, e2, ⟨hc0, hv, hP1, hz, hk⟩, st⟩ | ⟨qa, st₀, t, T', L, E, ce, h0, X', hL, e1, e2, ⟨hE, hc0, hP1, hz, hk⟩, -⟩
  · cases hv
    rw [h0] at hz hk
    have hS : va_S (fr G) s.heap T'.heap (locs ++ L) := ⟨Nat.le_trans P.2.1 (by rw [e1]; exact hz), fun q h1 h2 => by rw [e1, hk q (Nat.lt_of_lt_of_le h1 P.2.1) h2]; exact P.2.2.1 q h1 h2, fun q hq => by
      rcases List.mem_append.mp hq with h | h
      · exact P.2.2.2 q h
      · exact hL q h⟩
    obtain ⟨t2, a1, b1⟩ := kk _ _ T'.heap (locs ++ L) ⟨by rw [e1]; exact hP1, hS⟩ g2 T' rfl X'
    exact ⟨t2, st t2 a1, b1⟩
  · exact absurd hq hc0
end WR
/-- what the tables say of a call of one of the law's own methods -/
def CallFW (own : String) (idx : Nat) (y : MethodName) (bytes : ByteArray) (maxL : Nat) (hh : List (Nat × Nat × Nat × Nat)) (n : Nat) : Prop :=
  Cond.methodLink own idx y ∈ WT ∧ Cond.static y ∈ WT ∧ Cond.initialized y.cls ∈ WT ∧ Cond.codeWith y bytes maxL (some .int) hh ∈ WT ∧ (y.cls ≠ "java/lang/invoke/MethodHandle" ∧ y.cls ≠ "java/lang/invoke/VarHandle") ∧ (parseMethodDescriptor y.desc).map (fun d => d.parameters.length) = some n
section LR
variable {G : Gd} {own : String} {cc : ByteArray} {nL : Nat} {ret : Option FieldType} {p : Program} {l : Launch} {e : Env} {R : Room} {s : State} {m : MethodId} {args : Array Value} {below : List Frame} {meth : Method} {c : Code} {H : Heap} {locs : List Loc} {cells slots : Nat} {Q : State → Prop} {o : OM}
variable {pc pc' : Nat} {ls : Array Slot} {rest : List Value}
theorem w_cS (C : Cx G own cc nL ret p s m args meth c) (X : XW G s) (P : Hp G o s H locs) {idx : Nat} {y : MethodName} {bytes : ByteArray} {maxL n : Nat} {hh : List (Nat × Nat × Nat × Nat)} (F : CallFW own idx y bytes maxL hh n) {rm : Room} (As rest : List Value) {st0 : List Value} {α : Type} {FF : Option (Int32 × OM)} {K : Int32 → OM → Option α} {z : α} (hf : bn FF K = some z)
    (hM : ∀ k o1, FF = some (k, o1) → ∃ code, Ctw l y bytes maxL hh rm G As o code k o1) (hR : rm.frames + 1 ≤ R.frames ∧ 8 + (maxL + 11) + rm.locals ≤ R.locals) (hcs : cells + 1 ≤ R.cells ∧ slots + 6 ≤ R.slots) (hn : As.length = n) (hst : st0 = As.reverse ++ rest) (hsz : ls.size = nL) (hw : (rest.map fun v => v.category).sum ≤ 8) (d : Dc cc pc (.invokestatic idx) 3 pc')
    (kk : ∀ k o1 cl sl H1 L1, cl ≤ cells + 1 → sl ≤ slots + 6 → Hp G o1 s H1 L1 → K k o1 = some z → W p l e R s m args below meth c H1 L1 cl sl Q (F0 m pc' ls (.int k :: rest))) : W p l e R s m args below meth c H locs cells slots Q (F0 m pc ls st0) := by
  obtain ⟨d1, rfl⟩ := d
  obtain ⟨k, o1, g1, g2⟩ := bn_s hf
  obtain ⟨code, hM'⟩ := hM k o1 g1
  obtain ⟨f1, f2, f3, f4, f5, f6⟩ := F
  have hts := C.2.2.2.2.2.1
  have hle : mcx code ≤ 1 := by unfold mcx; split <;> omega
  have cw : vx_CSW R s args own idx y bytes maxL (some .int) hh (Cond.codeWith y bytes maxL (some .int) hh :: WT) (rmx rm code) (mcx code) (6 * mcx code) n := by
    refine ⟨⟨rfl, rfl, hR.1, hR.2, fun w hw a' U hW => ?_, List.mem_cons_self⟩, hts _ f4, hts _ f3, f5, fun sig h => ?_, hts _ f1, hts _ f2⟩
    · have hw2 : w ∈ WT := by
        rcases List.mem_cons.mp hw with h | h
        · rw [h]; exact f4
        · exact h
      exact word_at hW (wt_good w hw2) (hts w hw2)
    · rw [h] at f6
      exact (Option.some.inj f6).symm
  have hr := vx_runSX (e := e) (below := below) (meth := meth) (R := R) (H := H) (locs := locs) (cells := cells) (slots := slots) (As := As) (rest := rest) (g := F0 m pc ls st0) ⟨C.1, C.2.1, C.2.2.1, C.2.2.2.2.1, hts⟩ hM' cw (preW_S C X P) rfl hn hsz hst (lv_room hw) d1 ⟨by omega, by omega⟩
  intro T hT X0
  rcases hr T hT X0 with ⟨v, st₀, t, T', L, h0, X', hL, e1, e2, ⟨hv, hP1, hz, hk⟩, st⟩ | ⟨qa, st₀, t, T', L, E, ce, h0, X', hL, e1, e2, hx, -⟩
  · cases hv
    rw [h0] at hz hk
    have hS : va_S (fr G) s.heap T'.heap (locs ++ L) := ⟨Nat.le_trans P.2.1 (by rw [e1]; exact hz), fun q h1 h2 => by rw [e1, hk q (Nat.lt_of_lt_of_le h1 P.2.1) h2]; exact P.2.2.1 q h1 h2, fun q hq => by
      rcases List.mem_append.mp hq with h | h
      · exact P.2.2.2 q h
      · exact hL q h⟩
    obtain ⟨t2, a1, b1⟩ := kk k o1 _ _ T'.heap (locs ++ L) (by omega) (by omega) ⟨by rw [e1]; exact hP1, hS⟩ g2 T' rfl X'
    exact ⟨t2, st t2 a1, b1⟩
  · exact hx.elim
theorem m_cX (C : Cx G own cc nL ret p s m args meth c) (X : XW G s) (P : Hp G o s H locs) {idx : Nat} {y : MethodName} {bytes : ByteArray} {maxL n : Nat} {hh : List (Nat × Nat × Nat × Nat)} (F : CallFW own idx y bytes maxL hh n) {rm : Room} (As rest : List Value) {st0 : List Value} {α : Type} {FF : Option (Int32 × OM)} {K : Int32 → OM → Option α} {z : α} (hf : bn FF K = some z)
    (hM : ∀ k o1, FF = some (k, o1) → ∃ code, Ctw l y bytes maxL hh rm G As o code k o1) (hR : rm.frames + 1 ≤ R.frames ∧ 8 + (maxL + 11) + rm.locals ≤ R.locals) (hcs : 0 + 1 ≤ R.cells ∧ 0 + 6 ≤ R.slots) (hn : As.length = n) (hst : st0 = As.reverse ++ rest) (hsz : ls.size = nL) (hw : (rest.map fun v => v.category).sum ≤ 8) (d : Dc cc pc (.invokestatic idx) 3 pc')
    (kk : ∀ k o1 H1 L1, Hp G o1 s H1 L1 → K k o1 = some z → W p l e R s m args below meth c H1 L1 1 6 Q (F0 m pc' ls (.int k :: rest))) : W p l e R s m args below meth c H locs 0 0 Q (F0 m pc ls st0) :=
  w_cS C X P F As rest hf hM hR hcs hn hst hsz hw d (fun k o1 cl sl H1 L1 h1 h2 P1 h3 => W.widen (by omega) (by omega) (kk k o1 H1 L1 P1 h3))
end LR
abbrev Ctm (l : Launch) (y : MethodName) (cc : ByteArray) (maxL : Nat) (ret : Option FieldType) (rm : Room) (G : Gd) (As : List Value) (o : OM) (rv : Option Value) (o' : OM) : Prop :=
  Met l y (Cond.code y cc maxL ret :: WT) rm (va_Pc As (PreW G o)) (QcG G rv o') rm.cells rm.slots (fr G)
theorem ctm_of {l : Launch} {y : MethodName} {cc : ByteArray} {maxL : Nat} {ret : Option FieldType} {rm : Room} {G : Gd} {As : List Value} {o : OM} {rv : Option Value} {o' : OM} (hy : plainFor y = true) (hl : (lg_sl As).length ≤ maxL)
    (body : ∀ p e s m below meth c ls, Cx G y.cls cc maxL ret p s m As.toArray meth c → XW G s → Hp G o s s.heap [] → lv_has ls maxL (lv_args 0 As) →
      W p l e rm s m As.toArray below meth c s.heap [] 0 0 (Qm G rv o' rm below As.toArray s) (F0 m 0 ls [])) : Ctm l y cc maxL ret rm G As o rv o' := by
  refine ofWF (cc := cc) (maxL := maxL) (ret := ret) hy rfl ?_
  intro p e s m args below meth c s₁ B hml hv
  obtain ⟨rfl, ⟨hP, hK, hz⟩, hX⟩ := hv
  have hts := atoms_spec (ws := Cond.code y cc maxL ret :: WT) B.pre
  have hC : Cx G y.cls cc maxL ret p s m As.toArray meth c := ⟨B.exec, B.bytes, hml, B.returns, findClass_of_methodNamed B.named, fun w hw => hts w (List.mem_cons_of_mem _ hw), hK, B.notSynchronized, hz⟩
  have h := body p e s m below meth c _ hC hX ⟨hP, va_S.rf⟩ (lv_entry As (n := maxL) hl)
  rw [lg_entry_eq]
  exact h
theorem cf_L_8 : CallF false RL 8 yX5_breakOne cX5_breakOne 3 (some .int) 1 := ⟨wd_396, (by rw [if_neg (by decide)]; exact ⟨wd_397, wd_398⟩), wd_10, wd_399, by decide, by decide +kernel⟩
theorem cf_L_14 : CallF false RL 14 yX5_bath cX5_bath 4 (some .int) 2 := ⟨wd_429, (by rw [if_neg (by decide)]; exact ⟨wd_430, wd_431⟩), wd_10, wd_432, by decide, by decide +kernel⟩
theorem cf_L_18 : CallF false RL 18 yX5_pass cX5_pass 2 (some .int) 1 := ⟨wd_441, (by rw [if_neg (by decide)]; exact ⟨wd_442, wd_443⟩), wd_10, wd_444, by decide, by decide +kernel⟩
theorem cf_L_21 : CallF false RL 21 yX5_set cX5_set 4 (some .int) 2 := ⟨wd_464, (by rw [if_neg (by decide)]; exact ⟨wd_465, wd_466⟩), wd_10, wd_467, by decide, by decide +kernel⟩
theorem cf_L_24 : CallF false RL 24 yX5_measure cX5_measure 5 (some .int) 2 := ⟨wd_472, (by rw [if_neg (by decide)]; exact ⟨wd_473, wd_474⟩), wd_10, wd_475, by decide, by decide +kernel⟩
theorem cf_L_27 : CallF false RL 27 yX5_forget cX5_forget 3 (some .int) 2 := ⟨wd_515, (by rw [if_neg (by decide)]; exact ⟨wd_516, wd_517⟩), wd_10, wd_518, by decide, by decide +kernel⟩
theorem cf_L_30 : CallF false RL 30 yX5_paper cX5_paper 3 (some .int) 1 := ⟨wd_520, (by rw [if_neg (by decide)]; exact ⟨wd_521, wd_522⟩), wd_10, wd_523, by decide, by decide +kernel⟩
theorem dL_changes_0 : Dc cL_changes 0 (.aload 4) 2 2 := ⟨by decide +kernel, rfl⟩
theorem dL_changes_2 : Dc cL_changes 2 (.iconst 0) 1 3 := ⟨by decide +kernel, rfl⟩
theorem dL_changes_3 : Dc cL_changes 3 (.iload_n 1) 1 4 := ⟨by decide +kernel, rfl⟩
theorem dL_changes_4 : Dj cL_changes 4 (.ifCond .ne 11) 3 7 (11) 15 := ⟨by decide +kernel, rfl, by decide⟩
theorem dL_changes_7 : Dc cL_changes 7 (.aload_n 0) 1 8 := ⟨by decide +kernel, rfl⟩
theorem dL_changes_8 : Dc cL_changes 8 (.iload_n 2) 1 9 := ⟨by decide +kernel, rfl⟩
theorem dL_changes_9 : Dc cL_changes 9 (.invokevirtual 8) 3 12 := ⟨by decide +kernel, rfl⟩
theorem dL_changes_12 : Dj cL_changes 12 (.goto 77) 3 15 (77) 89 := ⟨by decide +kernel, rfl, by decide⟩
theorem dL_changes_15 : Dc cL_changes 15 (.iload_n 1) 1 16 := ⟨by decide +kernel, rfl⟩
theorem dL_changes_16 : Dc cL_changes 16 (.iconst 1) 1 17 := ⟨by decide +kernel, rfl⟩
theorem dL_changes_17 : Dj cL_changes 17 (.if_icmp .ne 12) 3 20 (12) 29 := ⟨by decide +kernel, rfl, by decide⟩
theorem dL_changes_20 : Dc cL_changes 20 (.aload_n 0) 1 21 := ⟨by decide +kernel, rfl⟩
theorem dL_changes_21 : Dc cL_changes 21 (.iload_n 2) 1 22 := ⟨by decide +kernel, rfl⟩
theorem dL_changes_22 : Dc cL_changes 22 (.iload_n 3) 1 23 := ⟨by decide +kernel, rfl⟩
theorem dL_changes_23 : Dc cL_changes 23 (.invokevirtual 14) 3 26 := ⟨by decide +kernel, rfl⟩
theorem dL_changes_26 : Dj cL_changes 26 (.goto 63) 3 29 (63) 89 := ⟨by decide +kernel, rfl, by decide⟩
theorem dL_changes_29 : Dc cL_changes 29 (.iload_n 1) 1 30 := ⟨by decide +kernel, rfl⟩
theorem dL_changes_30 : Dc cL_changes 30 (.iconst 2) 1 31 := ⟨by decide +kernel, rfl⟩
theorem dL_changes_31 : Dj cL_changes 31 (.if_icmp .ne 11) 3 34 (11) 42 := ⟨by decide +kernel, rfl, by decide⟩
theorem dL_changes_34 : Dc cL_changes 34 (.aload_n 0) 1 35 := ⟨by decide +kernel, rfl⟩
theorem dL_changes_35 : Dc cL_changes 35 (.iload_n 2) 1 36 := ⟨by decide +kernel, rfl⟩
theorem dL_changes_36 : Dc cL_changes 36 (.invokevirtual 18) 3 39 := ⟨by decide +kernel, rfl⟩
theorem dL_changes_39 : Dj cL_changes 39 (.goto 50) 3 42 (50) 89 := ⟨by decide +kernel, rfl, by decide⟩
theorem dL_changes_42 : Dc cL_changes 42 (.iload_n 1) 1 43 := ⟨by decide +kernel, rfl⟩
theorem dL_changes_43 : Dc cL_changes 43 (.iconst 3) 1 44 := ⟨by decide +kernel, rfl⟩
theorem dL_changes_44 : Dj cL_changes 44 (.if_icmp .ne 12) 3 47 (12) 56 := ⟨by decide +kernel, rfl, by decide⟩
theorem dL_changes_47 : Dc cL_changes 47 (.aload_n 0) 1 48 := ⟨by decide +kernel, rfl⟩
theorem dL_changes_48 : Dc cL_changes 48 (.iload_n 2) 1 49 := ⟨by decide +kernel, rfl⟩
theorem dL_changes_49 : Dc cL_changes 49 (.iload_n 3) 1 50 := ⟨by decide +kernel, rfl⟩
theorem dL_changes_50 : Dc cL_changes 50 (.invokevirtual 21) 3 53 := ⟨by decide +kernel, rfl⟩
theorem dL_changes_53 : Dj cL_changes 53 (.goto 36) 3 56 (36) 89 := ⟨by decide +kernel, rfl, by decide⟩
theorem dL_changes_56 : Dc cL_changes 56 (.iload_n 1) 1 57 := ⟨by decide +kernel, rfl⟩
theorem dL_changes_57 : Dc cL_changes 57 (.iconst 4) 1 58 := ⟨by decide +kernel, rfl⟩
theorem dL_changes_58 : Dj cL_changes 58 (.if_icmp .ne 12) 3 61 (12) 70 := ⟨by decide +kernel, rfl, by decide⟩
theorem dL_changes_61 : Dc cL_changes 61 (.aload_n 0) 1 62 := ⟨by decide +kernel, rfl⟩
theorem dL_changes_62 : Dc cL_changes 62 (.iload_n 2) 1 63 := ⟨by decide +kernel, rfl⟩
theorem dL_changes_63 : Dc cL_changes 63 (.iload_n 3) 1 64 := ⟨by decide +kernel, rfl⟩
theorem dL_changes_64 : Dc cL_changes 64 (.invokevirtual 24) 3 67 := ⟨by decide +kernel, rfl⟩
theorem dL_changes_67 : Dj cL_changes 67 (.goto 22) 3 70 (22) 89 := ⟨by decide +kernel, rfl, by decide⟩
theorem dL_changes_70 : Dc cL_changes 70 (.iload_n 1) 1 71 := ⟨by decide +kernel, rfl⟩
theorem dL_changes_71 : Dc cL_changes 71 (.iconst 5) 1 72 := ⟨by decide +kernel, rfl⟩
theorem dL_changes_72 : Dj cL_changes 72 (.if_icmp .ne 12) 3 75 (12) 84 := ⟨by decide +kernel, rfl, by decide⟩
theorem dL_changes_75 : Dc cL_changes 75 (.aload_n 0) 1 76 := ⟨by decide +kernel, rfl⟩
theorem dL_changes_76 : Dc cL_changes 76 (.iload_n 2) 1 77 := ⟨by decide +kernel, rfl⟩
theorem dL_changes_77 : Dc cL_changes 77 (.iload_n 3) 1 78 := ⟨by decide +kernel, rfl⟩
theorem dL_changes_78 : Dc cL_changes 78 (.invokevirtual 27) 3 81 := ⟨by decide +kernel, rfl⟩
theorem dL_changes_81 : Dj cL_changes 81 (.goto 8) 3 84 (8) 89 := ⟨by decide +kernel, rfl, by decide⟩
theorem dL_changes_84 : Dc cL_changes 84 (.aload_n 0) 1 85 := ⟨by decide +kernel, rfl⟩
theorem dL_changes_85 : Dc cL_changes 85 (.iload_n 2) 1 86 := ⟨by decide +kernel, rfl⟩
theorem dL_changes_86 : Dc cL_changes 86 (.invokevirtual 30) 3 89 := ⟨by decide +kernel, rfl⟩
theorem dL_changes_89 : Dc cL_changes 89 (.iastore) 1 90 := ⟨by decide +kernel, rfl⟩
theorem dL_changes_90 : Dj cL_changes 90 (.goto 15) 3 93 (15) 105 := ⟨by decide +kernel, rfl, by decide⟩
theorem dL_changes_93 : Dc cL_changes 93 (.astore 5) 2 95 := ⟨by decide +kernel, rfl⟩
theorem dL_changes_95 : Dc cL_changes 95 (.iconst 1) 1 96 := ⟨by decide +kernel, rfl⟩
theorem dL_changes_96 : Dc cL_changes 96 (.ireturn) 1 97 := ⟨by decide +kernel, rfl⟩
theorem dL_changes_97 : Dc cL_changes 97 (.astore 5) 2 99 := ⟨by decide +kernel, rfl⟩
theorem dL_changes_99 : Dc cL_changes 99 (.iconst 2) 1 100 := ⟨by decide +kernel, rfl⟩
theorem dL_changes_100 : Dc cL_changes 100 (.ireturn) 1 101 := ⟨by decide +kernel, rfl⟩
theorem dL_changes_101 : Dc cL_changes 101 (.astore 5) 2 103 := ⟨by decide +kernel, rfl⟩
theorem dL_changes_103 : Dc cL_changes 103 (.iconst 3) 1 104 := ⟨by decide +kernel, rfl⟩
theorem dL_changes_104 : Dc cL_changes 104 (.ireturn) 1 105 := ⟨by decide +kernel, rfl⟩
theorem dL_changes_105 : Dc cL_changes 105 (.iconst 0) 1 106 := ⟨by decide +kernel, rfl⟩
theorem dL_changes_106 : Dc cL_changes 106 (.ireturn) 1 107 := ⟨by decide +kernel, rfl⟩
def Fc_L_changes (o : OM) (v1 v2 v3 : Int32) : Option ((Nat × Int32) × OM) := if v1 = 0 then (F_X5_breakOne o v2) else (if v1 = 1 then (F_X5_bath o v2 v3) else (if v1 = 2 then (F_X5_pass o v2) else (if v1 = 3 then (F_X5_set o v2 v3) else (if v1 = 4 then (F_X5_measure o v2 v3) else (if v1 = 5 then (F_X5_forget o v2 v3) else (F_X5_paper o v2))))))
def F_L_changes (o : OM) (v1 v2 v3 : Int32) : Option (Int32 × OM) := bn (Fc_L_changes o v1 v2 v3) (fun q o1 => grd (okc [3, 1, 2] q.1) (some (wc q.1, wo q o1)))
abbrev rmL_changes : Room := { frames := 8, cells := 0, slots := 0, locals := 149 }
set_option maxHeartbeats 4000000 in
set_option maxRecDepth 100000 in
theorem ctL_changes (l : Launch) (G : Gd) (hl9 : l.stackTraces = false) (o : OM) (v1 v2 v3 : Int32) {k : Int32} {o9 : OM} (hf : F_L_changes o v1 v2 v3 = some (k, o9)) : ∃ code, Ctw l yL_changes cL_changes 6 [(0, 90, 93, 33), (0, 90, 97, 35), (0, 90, 101, 37)] rmL_changes G [.ref (rA G 0 0), .int v1, .int v2, .int v3, .ref (rA G 24 0)] o code k o9 := by
  obtain ⟨q, o1, h1, h2⟩ := bn_s hf
  clear hf
  obtain ⟨g2, h3⟩ := grd_s h2
  cases h3
  obtain ⟨code, v⟩ := q
  refine ⟨code, ctw_of (by decide) (Nat.le_of_ble_eq_true rfl) (fun p e s m below meth c ls C hT X P hl => ?_)⟩
  have C : Cx G RL cL_changes 6 (some .int) p s m _ meth c := C
  have hl : lv_has ls 6 [(0, .ref (rA G 0 0)), (1, .int v1), (2, .int v2), (3, .int v3), (4, .ref (rA G 24 0))] := hl
  have hle : mcx code ≤ 1 := by unfold mcx; split <;> omega
  have hcs : code ≠ 0 → code = 3 ∨ code = 1 ∨ code = 2 := by
    intro hc
    simp only [okc, Bool.or_eq_true, decide_eq_true_eq] at g2
    rcases g2 with g2 | g2
    · exact absurd g2 hc
    · simpa using g2
  have hn : ∀ {H1 : Heap} {L1 : List Loc}, code = 0 → Hp G o1 s H1 L1 → W p l e (rmx rmL_changes code) s m ([.ref (rA G 0 0), .int v1, .int v2, .int v3, .ref (rA G 24 0)] : List Value).toArray below meth c H1 L1 0 0 (Qwm G code (wc code) (wo (code, v) o1) below ([.ref (rA G 0 0), .int v1, .int v2, .int v3, .ref (rA G 24 0)] : List Value).toArray s) (F0 m 89 ls [.int v, .int 0, .ref (rA G 24 0)]) := by
    intro H1 L1 hc P
    subst hc
    refine r_iast C P (k := 24) (i := 0) (n := 1) (fun _ _ => rfl) rfl dL_changes_89 (out_st o1 v) (fun o2 H2 L2 P he => ?_)
    cases he
    refine r_goto C dL_changes_90 ?_
    refine r_iconst C (v := 0) (by decide) dL_changes_105 ?_
    exact w_iret C P ⟨rfl, rfl⟩ dL_changes_106
  have hx : ∀ {H1 : Heap} {L1 : List Loc} {ce : Cell} {qa : Addr}, code ≠ 0 → Hp G o1 s H1 L1 → H1[qa]? = some ce → ce.vm = .none → s.vm.findClass (exN code) = some ce.cls → ∀ pc : Nat, covers { startPc := 0, endPc := 90, handlerPc := 93, catchType := 33 } pc = true → covers { startPc := 0, endPc := 90, handlerPc := 97, catchType := 35 } pc = true → covers { startPc := 0, endPc := 90, handlerPc := 101, catchType := 37 } pc = true → vx_W p l e (rmx rmL_changes code) s m ([.ref (rA G 0 0), .int v1, .int v2, .int v3, .ref (rA G 24 0)] : List Value).toArray below meth c H1 L1 (mcx code) (6 * mcx code) (Qwm G code (wc code) (wo (code, v) o1) below ([.ref (rA G 0 0), .int v1, .int v2, .int v3, .ref (rA G 24 0)] : List Value).toArray s) (F0 m pc ls [.int 0, .ref (rA G 24 0)]) qa := by
    intro H1 L1 ce qa hc P hcell hvm hcl pc hp0 hp1 hp2
    rcases hcs hc with rfl | rfl | rfl
    · refine vx_catch C.2.2.2.2.1 [] { startPc := 0, endPc := 90, handlerPc := 93, catchType := 33 } [{ startPc := 0, endPc := 90, handlerPc := 97, catchType := 35 }, { startPc := 0, endPc := 90, handlerPc := 101, catchType := 37 }] hT (fun z hz => nomatch hz) hp0 (by decide) (C.2.2.2.2.2.1 _ wd_395) (va_Nw.use rfl (X.1.2.2.1 (.castable "java/lang/IndexOutOfBoundsException" "java/lang/IndexOutOfBoundsException") (by decide))) hcell hvm hcl ?_
      refine r_astore C [(5, .ref qa), (0, .ref (rA G 0 0)), (1, .int v1), (2, .int v2), (3, .int v3), (4, .ref (rA G 24 0))] hl (by decide) rfl dL_changes_93 (fun ls hl => ?_)
      refine r_iconst C (v := 1) (by decide) dL_changes_95 ?_
      exact w_iret C P ⟨rfl, rfl⟩ dL_changes_96
    · refine vx_catch C.2.2.2.2.1 [{ startPc := 0, endPc := 90, handlerPc := 93, catchType := 33 }] { startPc := 0, endPc := 90, handlerPc := 97, catchType := 35 } [{ startPc := 0, endPc := 90, handlerPc := 101, catchType := 37 }] hT (fun z hz => by
        simp only [List.mem_cons, List.not_mem_nil, or_false] at hz
        rcases hz with rfl
        · exact Or.inr ⟨by decide, "java/lang/IndexOutOfBoundsException", C.2.2.2.2.2.1 _ wd_395, X.2 ("java/lang/IllegalArgumentException", "java/lang/IndexOutOfBoundsException") (by decide)⟩) hp1 (by decide) (C.2.2.2.2.2.1 _ wd_367) (va_Nw.use rfl (X.1.2.2.1 (.castable "java/lang/IllegalArgumentException" "java/lang/IllegalArgumentException") (by decide))) hcell hvm hcl ?_
      refine r_astore C [(5, .ref qa), (0, .ref (rA G 0 0)), (1, .int v1), (2, .int v2), (3, .int v3), (4, .ref (rA G 24 0))] hl (by decide) rfl dL_changes_97 (fun ls hl => ?_)
      refine r_iconst C (v := 2) (by decide) dL_changes_99 ?_
      exact w_iret C P ⟨rfl, rfl⟩ dL_changes_100
    · refine vx_catch C.2.2.2.2.1 [{ startPc := 0, endPc := 90, handlerPc := 93, catchType := 33 }, { startPc := 0, endPc := 90, handlerPc := 97, catchType := 35 }] { startPc := 0, endPc := 90, handlerPc := 101, catchType := 37 } [] hT (fun z hz => by
        simp only [List.mem_cons, List.not_mem_nil, or_false] at hz
        rcases hz with rfl | rfl
        · exact Or.inr ⟨by decide, "java/lang/IndexOutOfBoundsException", C.2.2.2.2.2.1 _ wd_395, X.2 ("java/lang/IllegalStateException", "java/lang/IndexOutOfBoundsException") (by decide)⟩
        · exact Or.inr ⟨by decide, "java/lang/IllegalArgumentException", C.2.2.2.2.2.1 _ wd_367, X.2 ("java/lang/IllegalStateException", "java/lang/IllegalArgumentException") (by decide)⟩) hp2 (by decide) (C.2.2.2.2.2.1 _ wd_368) (va_Nw.use rfl (X.1.2.2.1 (.castable "java/lang/IllegalStateException" "java/lang/IllegalStateException") (by decide))) hcell hvm hcl ?_
      refine r_astore C [(5, .ref qa), (0, .ref (rA G 0 0)), (1, .int v1), (2, .int v2), (3, .int v3), (4, .ref (rA G 24 0))] hl (by decide) rfl dL_changes_101 (fun ls hl => ?_)
      refine r_iconst C (v := 3) (by decide) dL_changes_103 ?_
      exact w_iret C P ⟨rfl, rfl⟩ dL_changes_104
  have hf := h1
  unfold Fc_L_changes at hf
  refine r_aload C hl 4 rfl dL_changes_0 ?_
  refine r_iconst C (v := 0) (by decide) dL_changes_2 ?_
  refine r_iload_n C hl 1 rfl rfl dL_changes_3 ?_
  refine r_if_ne C dL_changes_4 hf (fun hf => ?_) (fun hf => ?_)
  rotate_left
  · skip
    refine r_aload_n C hl 0 rfl rfl dL_changes_7 ?_
    refine r_iload_n C hl 2 rfl rfl dL_changes_8 ?_
    refine w_call C X P cf_L_8 (rm := rmX5_breakOne) rfl [.int v2] [.int 0, .ref (rA G 24 0)] (ctX5_breakOne l G hl9 o v2 hf) ⟨Nat.le_of_ble_eq_true rfl, Nat.le_of_ble_eq_true rfl⟩ ⟨by show mcx code ≤ mcx code; omega, by show 6 * mcx code ≤ 6 * mcx code; omega⟩ rfl rfl hl.1 (Nat.le_of_ble_eq_true rfl) dL_changes_9 (fun H1 L1 P hc => ?_) (fun H1 L1 ce qa P hc hcell hvm hcl => hx hc P hcell hvm hcl 9 (by decide) (by decide) (by decide))
    refine r_goto C dL_changes_12 ?_
    exact hn hc P
  · skip
    refine r_iload_n C hl 1 rfl rfl dL_changes_15 ?_
    refine r_iconst C (v := 1) (by decide) dL_changes_16 ?_
    refine r_icmp_ne C dL_changes_17 hf (fun hf => ?_) (fun hf => ?_)
    rotate_left
    · skip
      refine r_aload_n C hl 0 rfl rfl dL_changes_20 ?_
      refine r_iload_n C hl 2 rfl rfl dL_changes_21 ?_
      refine r_iload_n C hl 3 rfl rfl dL_changes_22 ?_
      refine w_call C X P cf_L_14 (rm := rmX5_bath) rfl [.int v2, .int v3] [.int 0, .ref (rA G 24 0)] (ctX5_bath l G hl9 o v2 v3 hf) ⟨Nat.le_of_ble_eq_true rfl, Nat.le_of_ble_eq_true rfl⟩ ⟨by show mcx code ≤ mcx code; omega, by show 6 * mcx code ≤ 6 * mcx code; omega⟩ rfl rfl hl.1 (Nat.le_of_ble_eq_true rfl) dL_changes_23 (fun H1 L1 P hc => ?_) (fun H1 L1 ce qa P hc hcell hvm hcl => hx hc P hcell hvm hcl 23 (by decide) (by decide) (by decide))
      refine r_goto C dL_changes_26 ?_
      exact hn hc P
    · skip
      refine r_iload_n C hl 1 rfl rfl dL_changes_29 ?_
      refine r_iconst C (v := 2) (by decide) dL_changes_30 ?_
      refine r_icmp_ne C dL_changes_31 hf (fun hf => ?_) (fun hf => ?_)
      rotate_left
      · skip
        refine r_aload_n C hl 0 rfl rfl dL_changes_34 ?_
        refine r_iload_n C hl 2 rfl rfl dL_changes_35 ?_
        refine w_call C X P cf_L_18 (rm := rmX5_pass) rfl [.int v2] [.int 0, .ref (rA G 24 0)] (ctX5_pass l G hl9 o v2 hf) ⟨Nat.le_of_ble_eq_true rfl, Nat.le_of_ble_eq_true rfl⟩ ⟨by show mcx code ≤ mcx code; omega, by show 6 * mcx code ≤ 6 * mcx code; omega⟩ rfl rfl hl.1 (Nat.le_of_ble_eq_true rfl) dL_changes_36 (fun H1 L1 P hc => ?_) (fun H1 L1 ce qa P hc hcell hvm hcl => hx hc P hcell hvm hcl 36 (by decide) (by decide) (by decide))
        refine r_goto C dL_changes_39 ?_
        exact hn hc P
      · skip
        refine r_iload_n C hl 1 rfl rfl dL_changes_42 ?_
        refine r_iconst C (v := 3) (by decide) dL_changes_43 ?_
        refine r_icmp_ne C dL_changes_44 hf (fun hf => ?_) (fun hf => ?_)
        rotate_left
        · skip
          refine r_aload_n C hl 0 rfl rfl dL_changes_47 ?_
          refine r_iload_n C hl 2 rfl rfl dL_changes_48 ?_
          refine r_iload_n C hl 3 rfl rfl dL_changes_49 ?_
          refine w_call C X P cf_L_21 (rm := rmX5_set) rfl [.int v2, .int v3] [.int 0, .ref (rA G 24 0)] (ctX5_set l G hl9 o v2 v3 hf) ⟨Nat.le_of_ble_eq_true rfl, Nat.le_of_ble_eq_true rfl⟩ ⟨by show mcx code ≤ mcx code; omega, by show 6 * mcx code ≤ 6 * mcx code; omega⟩ rfl rfl hl.1 (Nat.le_of_ble_eq_true rfl) dL_changes_50 (fun H1 L1 P hc => ?_) (fun H1 L1 ce qa P hc hcell hvm hcl => hx hc P hcell hvm hcl 50 (by decide) (by decide) (by decide))
          refine r_goto C dL_changes_53 ?_
          exact hn hc P
        · skip
          refine r_iload_n C hl 1 rfl rfl dL_changes_56 ?_
          refine r_iconst C (v := 4) (by decide) dL_changes_57 ?_
          refine r_icmp_ne C dL_changes_58 hf (fun hf => ?_) (fun hf => ?_)
          rotate_left
          · skip
            refine r_aload_n C hl 0 rfl rfl dL_changes_61 ?_
            refine r_iload_n C hl 2 rfl rfl dL_changes_62 ?_
            refine r_iload_n C hl 3 rfl rfl dL_changes_63 ?_
            refine w_call C X P cf_L_24 (rm := rmX5_measure) rfl [.int v2, .int v3] [.int 0, .ref (rA G 24 0)] (ctX5_measure l G hl9 o v2 v3 hf) ⟨Nat.le_of_ble_eq_true rfl, Nat.le_of_ble_eq_true rfl⟩ ⟨by show mcx code ≤ mcx code; omega, by show 6 * mcx code ≤ 6 * mcx code; omega⟩ rfl rfl hl.1 (Nat.le_of_ble_eq_true rfl) dL_changes_64 (fun H1 L1 P hc => ?_) (fun H1 L1 ce qa P hc hcell hvm hcl => hx hc P hcell hvm hcl 64 (by decide) (by decide) (by decide))
            refine r_goto C dL_changes_67 ?_
            exact hn hc P
          · skip
            refine r_iload_n C hl 1 rfl rfl dL_changes_70 ?_
            refine r_iconst C (v := 5) (by decide) dL_changes_71 ?_
            refine r_icmp_ne C dL_changes_72 hf (fun hf => ?_) (fun hf => ?_)
            rotate_left
            · skip
              refine r_aload_n C hl 0 rfl rfl dL_changes_75 ?_
              refine r_iload_n C hl 2 rfl rfl dL_changes_76 ?_
              refine r_iload_n C hl 3 rfl rfl dL_changes_77 ?_
              refine w_call C X P cf_L_27 (rm := rmX5_forget) rfl [.int v2, .int v3] [.int 0, .ref (rA G 24 0)] (ctX5_forget l G hl9 o v2 v3 hf) ⟨Nat.le_of_ble_eq_true rfl, Nat.le_of_ble_eq_true rfl⟩ ⟨by show mcx code ≤ mcx code; omega, by show 6 * mcx code ≤ 6 * mcx code; omega⟩ rfl rfl hl.1 (Nat.le_of_ble_eq_true rfl) dL_changes_78 (fun H1 L1 P hc => ?_) (fun H1 L1 ce qa P hc hcell hvm hcl => hx hc P hcell hvm hcl 78 (by decide) (by decide) (by decide))
              refine r_goto C dL_changes_81 ?_
              exact hn hc P
            · skip
              refine r_aload_n C hl 0 rfl rfl dL_changes_84 ?_
              refine r_iload_n C hl 2 rfl rfl dL_changes_85 ?_
              refine w_call C X P cf_L_30 (rm := rmX5_paper) rfl [.int v2] [.int 0, .ref (rA G 24 0)] (ctX5_paper l G hl9 o v2 hf) ⟨Nat.le_of_ble_eq_true rfl, Nat.le_of_ble_eq_true rfl⟩ ⟨by show mcx code ≤ mcx code; omega, by show 6 * mcx code ≤ 6 * mcx code; omega⟩ rfl rfl hl.1 (Nat.le_of_ble_eq_true rfl) dL_changes_86 (fun H1 L1 P hc => ?_) (fun H1 L1 ce qa P hc hcell hvm hcl => hx hc P hcell hvm hcl 86 (by decide) (by decide) (by decide))
              exact hn hc P
theorem cf_L_39 : CallF false RL 39 yX5_make cX5_make 4 (some .int) 3 := ⟨wd_369, (by rw [if_neg (by decide)]; exact ⟨wd_370, wd_371⟩), wd_10, wd_372, by decide, by decide +kernel⟩
theorem dL_makes_0 : Dc cL_makes 0 (.aload 4) 2 2 := ⟨by decide +kernel, rfl⟩
theorem dL_makes_2 : Dc cL_makes 2 (.iconst 0) 1 3 := ⟨by decide +kernel, rfl⟩
theorem dL_makes_3 : Dc cL_makes 3 (.aload_n 0) 1 4 := ⟨by decide +kernel, rfl⟩
theorem dL_makes_4 : Dc cL_makes 4 (.iload_n 1) 1 5 := ⟨by decide +kernel, rfl⟩
theorem dL_makes_5 : Dc cL_makes 5 (.iload_n 2) 1 6 := ⟨by decide +kernel, rfl⟩
theorem dL_makes_6 : Dc cL_makes 6 (.iload_n 3) 1 7 := ⟨by decide +kernel, rfl⟩
theorem dL_makes_7 : Dc cL_makes 7 (.invokevirtual 39) 3 10 := ⟨by decide +kernel, rfl⟩
theorem dL_makes_10 : Dc cL_makes 10 (.iastore) 1 11 := ⟨by decide +kernel, rfl⟩
theorem dL_makes_11 : Dj cL_makes 11 (.goto 11) 3 14 (11) 22 := ⟨by decide +kernel, rfl, by decide⟩
theorem dL_makes_14 : Dc cL_makes 14 (.astore 5) 2 16 := ⟨by decide +kernel, rfl⟩
theorem dL_makes_16 : Dc cL_makes 16 (.iconst 2) 1 17 := ⟨by decide +kernel, rfl⟩
theorem dL_makes_17 : Dc cL_makes 17 (.ireturn) 1 18 := ⟨by decide +kernel, rfl⟩
theorem dL_makes_18 : Dc cL_makes 18 (.astore 5) 2 20 := ⟨by decide +kernel, rfl⟩
theorem dL_makes_20 : Dc cL_makes 20 (.iconst 3) 1 21 := ⟨by decide +kernel, rfl⟩
theorem dL_makes_21 : Dc cL_makes 21 (.ireturn) 1 22 := ⟨by decide +kernel, rfl⟩
theorem dL_makes_22 : Dc cL_makes 22 (.iconst 0) 1 23 := ⟨by decide +kernel, rfl⟩
theorem dL_makes_23 : Dc cL_makes 23 (.ireturn) 1 24 := ⟨by decide +kernel, rfl⟩
def Fc_L_makes (o : OM) (v1 v2 v3 : Int32) : Option ((Nat × Int32) × OM) := F_X5_make o v1 v2 v3
def F_L_makes (o : OM) (v1 v2 v3 : Int32) : Option (Int32 × OM) := bn (Fc_L_makes o v1 v2 v3) (fun q o1 => grd (okc [1, 2] q.1) (some (wc q.1, wo q o1)))
abbrev rmL_makes : Room := { frames := 7, cells := 0, slots := 0, locals := 148 }
set_option maxHeartbeats 4000000 in
set_option maxRecDepth 100000 in
theorem ctL_makes (l : Launch) (G : Gd) (hl9 : l.stackTraces = false) (o : OM) (v1 v2 v3 : Int32) {k : Int32} {o9 : OM} (hf : F_L_makes o v1 v2 v3 = some (k, o9)) : ∃ code, Ctw l yL_makes cL_makes 6 [(0, 11, 14, 35), (0, 11, 18, 37)] rmL_makes G [.ref (rA G 0 0), .int v1, .int v2, .int v3, .ref (rA G 24 0)] o code k o9 := by
  obtain ⟨q, o1, h1, h2⟩ := bn_s hf
  clear hf
  obtain ⟨g2, h3⟩ := grd_s h2
  cases h3
  obtain ⟨code, v⟩ := q
  refine ⟨code, ctw_of (by decide) (Nat.le_of_ble_eq_true rfl) (fun p e s m below meth c ls C hT X P hl => ?_)⟩
  have C : Cx G RL cL_makes 6 (some .int) p s m _ meth c := C
  have hl : lv_has ls 6 [(0, .ref (rA G 0 0)), (1, .int v1), (2, .int v2), (3, .int v3), (4, .ref (rA G 24 0))] := hl
  have hle : mcx code ≤ 1 := by unfold mcx; split <;> omega
  have hcs : code ≠ 0 → code = 1 ∨ code = 2 := by
    intro hc
    simp only [okc, Bool.or_eq_true, decide_eq_true_eq] at g2
    rcases g2 with g2 | g2
    · exact absurd g2 hc
    · simpa using g2
  have hn : ∀ {H1 : Heap} {L1 : List Loc}, code = 0 → Hp G o1 s H1 L1 → W p l e (rmx rmL_makes code) s m ([.ref (rA G 0 0), .int v1, .int v2, .int v3, .ref (rA G 24 0)] : List Value).toArray below meth c H1 L1 0 0 (Qwm G code (wc code) (wo (code, v) o1) below ([.ref (rA G 0 0), .int v1, .int v2, .int v3, .ref (rA G 24 0)] : List Value).toArray s) (F0 m 10 ls [.int v, .int 0, .ref (rA G 24 0)]) := by
    intro H1 L1 hc P
    subst hc
    refine r_iast C P (k := 24) (i := 0) (n := 1) (fun _ _ => rfl) rfl dL_makes_10 (out_st o1 v) (fun o2 H2 L2 P he => ?_)
    cases he
    refine r_goto C dL_makes_11 ?_
    refine r_iconst C (v := 0) (by decide) dL_makes_22 ?_
    exact w_iret C P ⟨rfl, rfl⟩ dL_makes_23
  have hx : ∀ {H1 : Heap} {L1 : List Loc} {ce : Cell} {qa : Addr}, code ≠ 0 → Hp G o1 s H1 L1 → H1[qa]? = some ce → ce.vm = .none → s.vm.findClass (exN code) = some ce.cls → ∀ pc : Nat, covers { startPc := 0, endPc := 11, handlerPc := 14, catchType := 35 } pc = true → covers { startPc := 0, endPc := 11, handlerPc := 18, catchType := 37 } pc = true → vx_W p l e (rmx rmL_makes code) s m ([.ref (rA G 0 0), .int v1, .int v2, .int v3, .ref (rA G 24 0)] : List Value).toArray below meth c H1 L1 (mcx code) (6 * mcx code) (Qwm G code (wc code) (wo (code, v) o1) below ([.ref (rA G 0 0), .int v1, .int v2, .int v3, .ref (rA G 24 0)] : List Value).toArray s) (F0 m pc ls [.int 0, .ref (rA G 24 0)]) qa := by
    intro H1 L1 ce qa hc P hcell hvm hcl pc hp0 hp1
    rcases hcs hc with rfl | rfl
    · refine vx_catch C.2.2.2.2.1 [] { startPc := 0, endPc := 11, handlerPc := 14, catchType := 35 } [{ startPc := 0, endPc := 11, handlerPc := 18, catchType := 37 }] hT (fun z hz => nomatch hz) hp0 (by decide) (C.2.2.2.2.2.1 _ wd_367) (va_Nw.use rfl (X.1.2.2.1 (.castable "java/lang/IllegalArgumentException" "java/lang/IllegalArgumentException") (by decide))) hcell hvm hcl ?_
      refine r_astore C [(5, .ref qa), (0, .ref (rA G 0 0)), (1, .int v1), (2, .int v2), (3, .int v3), (4, .ref (rA G 24 0))] hl (by decide) rfl dL_makes_14 (fun ls hl => ?_)
      refine r_iconst C (v := 2) (by decide) dL_makes_16 ?_
      exact w_iret C P ⟨rfl, rfl⟩ dL_makes_17
    · refine vx_catch C.2.2.2.2.1 [{ startPc := 0, endPc := 11, handlerPc := 14, catchType := 35 }] { startPc := 0, endPc := 11, handlerPc := 18, catchType := 37 } [] hT (fun z hz => by
        simp only [List.mem_cons, List.not_mem_nil, or_false] at hz
        rcases hz with rfl
        · exact Or.inr ⟨by decide, "java/lang/IllegalArgumentException", C.2.2.2.2.2.1 _ wd_367, X.2 ("java/lang/IllegalStateException", "java/lang/IllegalArgumentException") (by decide)⟩) hp1 (by decide) (C.2.2.2.2.2.1 _ wd_368) (va_Nw.use rfl (X.1.2.2.1 (.castable "java/lang/IllegalStateException" "java/lang/IllegalStateException") (by decide))) hcell hvm hcl ?_
      refine r_astore C [(5, .ref qa), (0, .ref (rA G 0 0)), (1, .int v1), (2, .int v2), (3, .int v3), (4, .ref (rA G 24 0))] hl (by decide) rfl dL_makes_18 (fun ls hl => ?_)
      refine r_iconst C (v := 3) (by decide) dL_makes_20 ?_
      exact w_iret C P ⟨rfl, rfl⟩ dL_makes_21
  have hf := h1
  unfold Fc_L_makes at hf
  refine r_aload C hl 4 rfl dL_makes_0 ?_
  refine r_iconst C (v := 0) (by decide) dL_makes_2 ?_
  refine r_aload_n C hl 0 rfl rfl dL_makes_3 ?_
  refine r_iload_n C hl 1 rfl rfl dL_makes_4 ?_
  refine r_iload_n C hl 2 rfl rfl dL_makes_5 ?_
  refine r_iload_n C hl 3 rfl rfl dL_makes_6 ?_
  refine w_call C X P cf_L_39 (rm := rmX5_make) rfl [.int v1, .int v2, .int v3] [.int 0, .ref (rA G 24 0)] (ctX5_make l G hl9 o v1 v2 v3 hf) ⟨Nat.le_of_ble_eq_true rfl, Nat.le_of_ble_eq_true rfl⟩ ⟨by show mcx code ≤ mcx code; omega, by show 6 * mcx code ≤ 6 * mcx code; omega⟩ rfl rfl hl.1 (Nat.le_of_ble_eq_true rfl) dL_makes_7 (fun H1 L1 P hc => ?_) (fun H1 L1 ce qa P hc hcell hvm hcl => hx hc P hcell hvm hcl 7 (by decide) (by decide))
  exact hn hc P
