/-! the making of the objects: a world of n cells, what each holds by its place -/
def WSn (G : Gd) (f : Nat → va_E) (n : Nat) : va_W := (List.range n).map (fun k => (G.1 + k, f k))
def fu (f : Nat → va_E) (k : Nat) (e : va_E) : Nat → va_E := fun j => if j = k then e else f j
theorem WSn_get {G : Gd} {f : Nat → va_E} {n k : Nat} (h : k < n) : (WSn G f n)[k]? = some (G.1 + k, f k) := by
  unfold WSn
  rw [List.getElem?_map, List.getElem?_range h]
  rfl
theorem WSn_len {G : Gd} {f : Nat → va_E} {n : Nat} : (WSn G f n).length = n := by
  unfold WSn
  rw [List.length_map, List.length_range]
theorem WSn_out {G : Gd} {f : Nat → va_E} {n k : Nat} (h : ¬ k < n) : (WSn G f n)[k]? = none := List.getElem?_eq_none (by rw [WSn_len]; omega)
theorem WSn_D (G : Gd) (f : Nat → va_E) (n : Nat) : va_D (frN G) (WSn G f n) := by
  refine ⟨fun i j p q hi hj hpq => ?_, fun k q hk => ?_⟩
  · by_cases h1 : i < n
    · by_cases h2 : j < n
      · rw [WSn_get h1] at hi
        rw [WSn_get h2] at hj
        cases hi; cases hj
        have : G.1 + i = G.1 + j := hpq
        omega
      · rw [WSn_out h2] at hj; cases hj
    · rw [WSn_out h1] at hi; cases hi
  · by_cases h1 : k < n
    · rw [WSn_get h1] at hk
      cases hk
      exact Nat.le_add_right _ _
    · rw [WSn_out h1] at hk; cases hk
theorem WSn_congr {G : Gd} {f g : Nat → va_E} {n : Nat} (h : ∀ k, k < n → f k = g k) : WSn G f n = WSn G g n := by
  apply List.ext_getElem?
  intro k
  by_cases hk : k < n
  · rw [WSn_get hk, WSn_get hk, h k hk]
  · rw [WSn_out hk, WSn_out hk]
theorem WSn_set {G : Gd} {f : Nat → va_E} {n k : Nat} {e : va_E} (h : k < n) : (WSn G f n).set k (G.1 + k, e) = WSn G (fu f k e) n := by
  apply List.ext_getElem?
  intro j
  by_cases hj : j < n
  · rw [WSn_get hj]
    by_cases hk : j = k
    · subst hk
      rw [List.getElem?_set_self (by rw [WSn_len]; exact h)]
      simp [fu]
    · rw [List.getElem?_set_ne (fun z => hk z.symm), WSn_get hj]
      simp [fu, hk]
  · rw [WSn_out hj, List.getElem?_set_ne (by omega), WSn_out hj]
theorem WSn_push {G : Gd} {f : Nat → va_E} {n : Nat} {e : va_E} : WSn G f n ++ [(G.1 + n, e)] = WSn G (fu f n e) (n + 1) := by
  apply List.ext_getElem?
  intro j
  by_cases hj : j < n
  · rw [List.getElem?_append_left (by rw [WSn_len]; exact hj), WSn_get hj, WSn_get (by omega)]
    simp [fu, Nat.ne_of_lt hj]
  · rw [List.getElem?_append_right (by rw [WSn_len]; omega), WSn_len]
    by_cases hk : j = n
    · subst hk
      rw [WSn_get (by omega)]
      simp [fu]
    · rw [WSn_out (by omega)]
      exact List.getElem?_eq_none (by simp; omega)
/-- a constant row of ints -/
def SA (n : String) (N : Nat) (f : Nat → Int32) (G : Gd) (a : Nat) (U : State) : Prop :=
  va_Z RX5 n "[I" (.ref a) (frN G) U U.heap ∧ ¬ frN G a ∧ ∃ cell : Cell, U.heap[a]? = some cell ∧ cell.cls = aI G ∧ cell.vm ≠ .unknown ∧ (∀ k, cell.vm ≠ .statics k) ∧ cell.slots.size = N ∧ ∀ j : Nat, j < N → cell.slots[j]? = some (.int (f j))
theorem SA.to {n : String} {N : Nat} {f : Nat → Int32} {G : Gd} {a : Nat} {s U : State} {H : Heap} {locs : List Loc} (h : SA n N f G a s) (hS : va_S (frN G) s.heap H locs) (hU : U.heap = H) (hW : s.vm.Alike U.vm) : SA n N f G a U := by
  obtain ⟨h1, h2, cell, h3, h4⟩ := h
  have hk : ∀ a : Nat, a < s.heap.size → ¬ frN G a → U.heap[a]? = s.heap[a]? := fun a ha hb => by rw [hU]; exact hS.2.1 a ha hb
  exact ⟨(va_Z.kept h1 hk).moved hW, h2, cell, by rw [hk a (Array.getElem?_eq_some_iff.mp h3).1 h2]; exact h3, h4⟩
def fFB : Nat → Int32 := fun j => ([0, 1000, 370, -100] : List Int32).getD j 0
def fFS : Nat → Int32 := fun j => ([12, 6, 20, 0, 2, 4, 10] : List Int32).getD j 0
def NF : List (Nat × String) := [(18, "FIRST_BATHS"), (30, "FIRST_SETTINGS")]
def NM : List (String × Nat × MethodName) := [(RX2, 42, yX3_init), (RX3, 17, yX1_init), (RX5, 28, yX4_init)]
/-- what the constructors need beside the world -/
def XN (G : Gd) (U : State) : Prop :=
  (∃ a, SA "FIRST_BATHS" 4 fFB G a U) ∧ (∃ a, SA "FIRST_SETTINGS" 7 fFS G a U) ∧ (∀ q ∈ NF, va_Nw (.fieldLinkNest RX2 q.1 RX5 q.2 "[I" RX5) U) ∧ (∀ q ∈ NM, va_Nw (.methodLinkNest q.1 q.2.1 q.2.2 RX5) U) ∧ va_Nw (.castable "[I" "java/lang/Cloneable") U ∧ va_AO RX3 U ∧ va_AO RX2 U
theorem XN.to {G : Gd} {s U : State} {H : Heap} {locs : List Loc} (h : XN G s) (hS : va_S (frN G) s.heap H locs) (hU : U.heap = H) (hW : s.WarmedH U.vm) : XN G U := by
  obtain ⟨⟨a, h1⟩, ⟨b, h2⟩, h3, h4, h5, h6, h7⟩ := h
  exact ⟨⟨a, h1.to hS hU hW.alike⟩, ⟨b, h2.to hS hU hW.alike⟩, fun q hq => va_Nw.warmF hW (h3 q hq), fun q hq => va_Nw.warmM hW (h4 q hq), va_Nw.warmC hW h5, h6.moved hW.alike, h7.moved hW.alike⟩
theorem XN.calling {G : Gd} {U : State} {g : JFrame} {mk : MethodId} {a : Array Value} (h : XN G U) : XN G (U.calling g mk a) := by
  obtain ⟨⟨x, h1⟩, ⟨y, h2⟩, h3, h4, h5, h6, h7⟩ := h
  have hA : U.vm.Alike (U.calling g mk a).vm := Vm.Alike.refl U.vm
  exact ⟨⟨x, h1.1.moved hA, h1.2⟩, ⟨y, h2.1.moved hA, h2.2⟩, fun q hq => va_Nw.same rfl rfl (h3 q hq), fun q hq => va_Nw.same rfl rfl (h4 q hq), va_Nw.same rfl rfl h5, h6.moved hA, h7.moved hA⟩
def PreN (G : Gd) (f : Nat → va_E) (n : Nat) (U : State) : Prop := va_P (gD G) vwCl (WSn G f n) U.heap ∧ va_K (gD G) vwCl (gT G) U ∧ U.heap.size = G.1 + n ∧ XN G U
def QcN (G : Gd) (f : Nat → va_E) (n : Nat) : Array Value → State → Outcome → State → Prop := fun _ st oc t => oc = .returned none ∧ va_P (gD G) vwCl (WSn G f n) t.heap ∧ t.heap.size = G.1 + n ∧ va_F (frN G) st t
abbrev CtN (l : Launch) (y : MethodName) (cc : ByteArray) (maxL : Nat) (rm : Room) (G : Gd) (As : List Value) (f : Nat → va_E) (n : Nat) (f' : Nat → va_E) (n' : Nat) : Prop :=
  Met l y (Cond.code y cc maxL none :: WT) rm (va_Pc As (PreN G f n)) (QcN G f' n') rm.cells rm.slots (frN G)
def Hn (G : Gd) (f : Nat → va_E) (n : Nat) (s : State) (H : Heap) (locs : List Loc) : Prop := va_P (gD G) vwCl (WSn G f n) H ∧ H.size = G.1 + n ∧ va_S (frN G) s.heap H locs
abbrev Qn (G : Gd) (f : Nat → va_E) (n : Nat) (rm : Room) (below : List Frame) (args : Array Value) (s : State) : State → Prop := MQ below (QcN G f n) args s rm.cells rm.slots (frN G)
theorem ctn_of {l : Launch} {y : MethodName} {cc : ByteArray} {maxL : Nat} {rm : Room} {G : Gd} {As : List Value} {f f' : Nat → va_E} {n n' : Nat} (hy : plainFor y = true) (hi : y.name = "<init>") (hl : (lg_sl As).length ≤ maxL)
    (body : ∀ p e s m below meth c ls, Cx G y.cls cc maxL none p s m As.toArray meth c → meth.name = "<init>" → XN G s → Hn G f n s s.heap [] → lv_has ls maxL (lv_args 0 As) →
      W p l e rm s m As.toArray below meth c s.heap [] 0 0 (Qn G f' n' rm below As.toArray s) (F0 m 0 ls [])) : CtN l y cc maxL rm G As f n f' n' := by
  refine ofWF (cc := cc) (maxL := maxL) (ret := none) hy rfl ?_
  intro p e s m args below meth c s₁ B hml hv
  obtain ⟨rfl, hP, hK, hz, hX⟩ := hv
  have hts := atoms_spec (ws := Cond.code y cc maxL none :: WT) B.pre
  have hC : Cx G y.cls cc maxL none p s m As.toArray meth c := ⟨B.exec, B.bytes, hml, B.returns, findClass_of_methodNamed B.named, fun w hw => hts w (List.mem_cons_of_mem _ hw), hK, B.notSynchronized, by omega⟩
  have h := body p e s m below meth c _ hC ((name_of_methodNamed B.named B.method).1.trans hi) hX ⟨hP, hz, va_S.rf⟩ (lv_entry As (n := maxL) hl)
  rw [lg_entry_eq]
  exact h
section NR
variable {G : Gd} {own : String} {cc : ByteArray} {nL : Nat} {ret : Option FieldType} {p : Program} {l : Launch} {e : Env} {R : Room} {s : State} {m : MethodId} {args : Array Value} {below : List Frame} {meth : Method} {c : Code} {H : Heap} {locs : List Loc} {cells slots : Nat} {Q : State → Prop} {f : Nat → va_E} {n : Nat}
variable {pc pc' : Nat} {ls : Array Slot} {rest : List Value}
theorem Hn.to (P : Hn G f n s H locs) {f' : Nat → va_E} (h : ∀ k, k < n → f k = f' k) : Hn G f' n s H locs := ⟨WSn_congr h ▸ P.1, P.2⟩
theorem n_objInit (C : Cx G own cc nL ret p s m args meth c) {a idx : Nat} (w1 : Cond.methodLink own idx Lib.objectInit ∈ WT) (hsz : ls.size = nL) (hR : 1 ≤ R.frames ∧ (rest.map fun v => v.category).sum + 12 ≤ R.locals) (d : Dc cc pc (.invokespecial idx) 3 pc') (kk : W p l e R s m args below meth c H locs cells slots Q (F0 m pc' ls rest)) : W p l e R s m args below meth c H locs cells slots Q (F0 m pc ls (.ref a :: rest)) := by
  obtain ⟨d1, rfl⟩ := d
  have hts := C.2.2.2.2.2.1
  refine W.objInit C.1 C.2.1 C.2.2.2.2.1 (hts _ w1) (hts _ wd_30) (hts _ wd_31) rfl (by rw [C.2.2.1]; exact hsz) rfl d1 hR.1 (by show 2 * 0 + _ + 12 ≤ _; omega) ?_
  exact W.eq (g2 := F0 m (pc + 3) ls rest) rfl kk
theorem n_new (C : Cx G own cc nL ret p s m args meth c) (P : Hn G f n s H locs) {T : u_T} {C' : String} {N ci idx : Nat} (hin : ∀ w ∈ u_ws C' T N, w ∈ WT) (ty : Nat → FieldType) (hty : ∀ k, k < N → parseFieldDescriptor (T k).2.2.1 = some (ty k)) (w1 : Cond.classLink own idx C' ∈ WT) (w2 : Cond.instantiable C' N ∈ WT) (w3 : Cond.initialized C' ∈ WT) (hc : vwCl[ci]? = some (C', T, N)) (fs : List Value) (hfs : ∀ j, j < N → defaultValue (ty j) = vp_V fs j) (hR : cells + 1 ≤ R.cells ∧ slots + N ≤ R.slots) (d : Dc cc pc (.new idx) 3 pc')
    (kk : ∀ H1, Hn G (fu f n (.inr (ci, fs))) (n + 1) s H1 locs → W p l e R s m args below meth c H1 locs (cells + 1) (slots + N) Q (F0 m pc' ls (.ref (G.1 + n) :: rest))) : W p l e R s m args below meth c H locs cells slots Q (F0 m pc ls rest) := by
  obtain ⟨d1, rfl⟩ := d
  have hts := C.2.2.2.2.2.1
  have hKn := C.2.2.2.2.2.2.1.1 ci _ hc
  refine W.newcK C.1 C.2.1 C.2.2.2.2.1 (hts _ w1) (hts _ w2) (hts _ w3) rfl d1 hR.1 hR.2 hKn.2.1 P.2.1 fun H1 kC hkC e1 z1 o1 => ?_
  have hz : ∀ q : Nat, q < H.size → H1[q]? = H[q]? := fun q hq => o1 q (by rw [← P.2.1]; exact hq)
  refine kk H1 ⟨?_, by omega, Nat.le_trans P.2.2.1 (by rw [z1, P.2.1]; omega), fun x h1 h2 => (hz x (Nat.lt_of_lt_of_le h1 P.2.2.1)).trans (P.2.2.2.1 x h1 h2), P.2.2.2.2⟩
  rw [← WSn_push]
  refine (P.1.kept (fun k x hx => hz x.1 (P.1 k x hx).lt)).app (fun k x hx => ?_)
  have hz : k < 1 := (List.getElem?_eq_some_iff.mp hx).1
  rw [show k = 0 by omega] at hx
  cases hx
  exact ⟨_, hc, (u_born ty hts hin hKn hkC e1 hty).to hfs⟩
theorem n_newa (C : Cx G own cc nL ret p s m args meth c) (P : Hn G f n s H locs) {atype : ArrayType} {ty : FieldType} {cA : ClassId} {t0 : Nat} (hty : newarray.typeOf atype = ty) (hw : Cond.arrayClass ty ∈ WT) (ht : (gT G)[t0]? = some (cA, ty)) (hp : ∀ C', ty ≠ .object C') {a0 : vp_A} {N : Nat} {x : Int32} (ha : ∀ cA, vp_cell cA a0 = arrV cA N (fun _ => defaultValue ty)) (hx : ¬ x < 0 ∧ x.toNatClampNeg = N ∧ N * componentBytes ty ≤ 536870912) (hR : cells + 1 ≤ R.cells ∧ slots + N ≤ R.slots) (d : Dc cc pc (.newarray atype) 2 pc')
    (kk : ∀ H1, Hn G (fu f n (.inl (cA, a0))) (n + 1) s H1 locs → W p l e R s m args below meth c H1 locs (cells + 1) (slots + N) Q (F0 m pc' ls (.ref (G.1 + n) :: rest))) : W p l e R s m args below meth c H locs cells slots Q (F0 m pc ls (.int x :: rest)) := by
  obtain ⟨d1, rfl⟩ := d
  subst hty
  have hts := C.2.2.2.2.2.1
  refine va_newaK C.1 C.2.1 (hts _ hw) rfl d1 rfl hx.1 hx.2.1 hx.2.2 hR.1 hR.2 P.2.1 fun H1 cA' e1 z1 o1 hAr hNm => ?_
  have hcA : cA' = cA := by
    have h := (C.2.2.2.2.2.2.1.2 t0 _ ht).2
    cases hq : newarray.typeOf atype with
    | object C' => exact absurd hq (hp C')
    | _ =>
      rw [hq] at h hNm
      exact Option.some.inj (hNm.symm.trans h)
  subst hcA
  have hz : ∀ q : Nat, q < H.size → H1[q]? = H[q]? := fun q hq => o1 q (by rw [← P.2.1]; exact hq)
  refine kk H1 ⟨?_, by omega, Nat.le_trans P.2.2.1 (by rw [z1, P.2.1]; omega), fun x h1 h2 => (hz x (Nat.lt_of_lt_of_le h1 P.2.2.1)).trans (P.2.2.2.1 x h1 h2), P.2.2.2.2⟩
  rw [← WSn_push]
  refine (P.1.kept (fun k x hx => hz x.1 (P.1 k x hx).lt)).app (fun k x hx => ?_)
  have hz : k < 1 := (List.getElem?_eq_some_iff.mp hx).1
  rw [show k = 0 by omega] at hx
  cases hx
  show H1[G.1 + n]? = some (vp_cell _ _)
  rw [ha]
  exact e1
theorem n_newq (C : Cx G own cc nL ret p s m args meth c) (P : Hn G f n s H locs) {C' : String} {idx t0 : Nat} {cA : ClassId} (w1 : Cond.classLink own idx C' ∈ WT) (hover : va_AO C' s) (ht : (gT G)[t0]? = some (cA, .object C')) {N : Nat} {x : Int32} (hx : ¬ x < 0 ∧ x.toNatClampNeg = N ∧ N * 4 ≤ 536870912) (hR : cells + 1 ≤ R.cells ∧ slots + N ≤ R.slots) (d : Dc cc pc (.anewarray idx) 3 pc')
    (kk : ∀ H1, Hn G (fu f n (.inl (cA, N, .inr (.inr (.inr (.inr (fun _ => none))))))) (n + 1) s H1 locs → W p l e R s m args below meth c H1 locs (cells + 1) (slots + N) Q (F0 m pc' ls (.ref (G.1 + n) :: rest))) : W p l e R s m args below meth c H locs cells slots Q (F0 m pc ls (.int x :: rest)) := by
  obtain ⟨d1, rfl⟩ := d
  have hts := C.2.2.2.2.2.1
  obtain ⟨hx1, rfl, hx3⟩ := hx
  refine W.anew C.1 C.2.1 C.2.2.2.2.1 (hts _ w1) (va_AO.use hover) rfl d1 rfl hx1 hx3 hR.1 hR.2 fun cA' kA comp f1 f2 f3 f4 => ?_
  have hcA : cA' = cA := by
    obtain ⟨_, _, _, _, _, h⟩ := (C.2.2.2.2.2.2.1.2 t0 _ ht).2
    exact Option.some.inj (f1.symm.trans h)
  subst hcA
  generalize hH1 : H.push ({ cls := cA', slots := Array.replicate x.toNatClampNeg .null, vm := .none } : Cell) = H1
  have z1 : H1.size = H.size + 1 := by rw [← hH1, Array.size_push]
  have e1 : H1[H.size]? = some (arrV cA' x.toNatClampNeg (fun _ => .null)) := by rw [← hH1, Array.getElem?_push_size, ← arrV_new]
  have hz : ∀ q : Nat, q < H.size → H1[q]? = H[q]? := fun q hq => by rw [← hH1, Array.getElem?_push, if_neg (Nat.ne_of_lt hq)]
  rw [show H.size = G.1 + n from P.2.1]
  refine kk H1 ⟨?_, by have := P.2.1; omega, Nat.le_trans P.2.2.1 (by omega), fun x h1 h2 => (hz x (Nat.lt_of_lt_of_le h1 P.2.2.1)).trans (P.2.2.2.1 x h1 h2), P.2.2.2.2⟩
  rw [← WSn_push]
  refine (P.1.kept (fun k x hx => hz x.1 (P.1 k x hx).lt)).app (fun k x hx => ?_)
  have hz : k < 1 := (List.getElem?_eq_some_iff.mp hx).1
  rw [show k = 0 by omega] at hx
  cases hx
  show H1[G.1 + n]? = some (vp_cell _ _)
  rw [vp_cell_q, ← P.2.1]
  exact e1
theorem n_clone (C : Cx G own cc nL ret p s m args meth c) (P : Hn G f n s H locs) {nm : String} {N a idx : Nat} {g : Nat → Int32} (S : SA nm N g G a s) (hcl : va_Nw (.castable "[I" "java/lang/Cloneable") s) (w1 : Cond.methodLink own idx ⟨"[I", "clone", "()Ljava/lang/Object;"⟩ ∈ WT) (hsz : ls.size = nL) (hR : (1 ≤ R.frames ∧ (rest.map fun v => v.category).sum + 14 ≤ R.locals) ∧ cells + 1 ≤ R.cells ∧ slots + N ≤ R.slots) (d : Dc cc pc (.invokevirtual idx) 3 pc')
    (kk : ∀ H1, Hn G (fu f n (.inl (aI G, N, .inl g))) (n + 1) s H1 locs → W p l e R s m args below meth c H1 locs (cells + 1) (slots + N) Q (F0 m pc' ls (.ref (G.1 + n) :: rest))) : W p l e R s m args below meth c H locs cells slots Q (F0 m pc ls (.ref a :: rest)) := by
  obtain ⟨d1, rfl⟩ := d
  have hts := C.2.2.2.2.2.1
  obtain ⟨hZ, hna, cell, hcell, hcls, hvm, hst, hN, hel⟩ := S
  have hcellH : H[a]? = some cell := by rw [P.2.2.2.1 a (Array.getElem?_eq_some_iff.mp hcell).1 hna]; exact hcell
  have hKt : (gT G)[0]? = some (aI G, FieldType.int) := rfl
  have hRA : s.vm.findClass "[I" = some (aI G) := (C.2.2.2.2.2.2.1.2 0 _ hKt).2
  have hArr := (C.2.2.2.2.2.2.1.2 0 _ hKt).1
  obtain ⟨c0, t0', f1, f2, f3⟩ := Cond.castable_spec (va_Nw.use (A := args) rfl hcl)
  cases hRA.symm.trans f1
  have hvp : vp_cell (aI G) (N, .inl g) = { cls := cell.cls, slots := cell.slots } := by
    rw [vp_cell_i, hcls]
    unfold arrV
    congr 1
    apply Array.ext_getElem?
    intro i
    by_cases hi : i < N
    · rw [hel i hi]
      simp [hi]
    · rw [Array.getElem?_eq_none (by simp; omega), Array.getElem?_eq_none (by omega)]
  intro T hT X
  obtain ⟨-, kA, hkA, comp, hkind⟩ := State.isArrayOf_alike X.warmed.alike (hArr 0 (fun _ => .null))
  obtain ⟨-, kS, hkS, compS, hkindS⟩ := hArr 0 (fun _ => .null)
  obtain ⟨vm', X', st⟩ := X.cloneArray C.1 C.2.2.2.2.1 (hts _ w1) (hts _ wd_41) (hts _ wd_42) (hts _ wd_43) (hts _ wd_44) (a := a) (cell := cell) (by rw [hT]; exact hcellH) hst hvm (by rw [hcls]; exact hRA) f2 (by rw [hcls]; exact f3)
    (fun i v hv => by
      rw [hcls]
      have hi : i < N := by rw [← hN]; exact (Array.getElem?_eq_some_iff.mp hv).1
      rw [hel i hi] at hv
      cases hv
      have hk' : T.vm.classes[aI G]? = some kA := hkA
      simp [State.fitsSlot, State.slotType?, hk', hkind, fits])
    (g := F0 m pc ls (.ref a :: rest)) rfl (by rw [C.2.2.1]; exact hsz) rfl (by rw [C.2.1]; exact d1) hR.1.1 (by show 2 * 0 + _ + 14 ≤ _; have := hR.1.2; omega) hR.2.1 (by rw [hN]; exact hR.2.2) (hloader := by rw [hcls]; exact Vm.clonesLoader_of_array hkS hkindS)
  rw [hN, ← hvp] at X'
  rw [← hvp, hT, P.2.1] at st
  generalize hH1 : H.push (vp_cell (aI G) (N, .inl g)) = H1
  have z1 : H1.size = H.size + 1 := by rw [← hH1, Array.size_push]
  have e1 : H1[H.size]? = some (vp_cell (aI G) (N, .inl g)) := by rw [← hH1, Array.getElem?_push_size]
  have hz : ∀ q : Nat, q < H.size → H1[q]? = H[q]? := fun q hq => by rw [← hH1, Array.getElem?_push, if_neg (Nat.ne_of_lt hq)]
  obtain ⟨t, b1, b2⟩ := kk H1 ⟨by
    rw [← WSn_push]
    refine (P.1.kept (fun k x hx => hz x.1 (P.1 k x hx).lt)).app (fun k x hx => ?_)
    have hz : k < 1 := (List.getElem?_eq_some_iff.mp hx).1
    rw [show k = 0 by omega] at hx
    cases hx
    show H1[G.1 + n]? = some (vp_cell _ _)
    rw [← P.2.1]
    exact e1, by have := P.2.1; omega, Nat.le_trans P.2.2.1 (by omega), fun x h1 h2 => (hz x (Nat.lt_of_lt_of_le h1 P.2.2.1)).trans (P.2.2.2.1 x h1 h2), P.2.2.2.2⟩
    ((T.setVm vm').pushCell (vp_cell (aI G) (N, .inl g))) (by rw [← hH1, ← hT]; rfl) X'
  exact ⟨t, st t b1, b2⟩
theorem n_cast (C : Cx G own cc nL ret p s m args meth c) (P : Hn G f n s H locs) {a idx : Nat} {x : vp_A} (w1 : Cond.classLink own idx "[I" ∈ WT) (hk : a < n) (he : f a = .inl (aI G, x)) (d : Dc cc pc (.checkcast idx) 3 pc') (kk : W p l e R s m args below meth c H locs cells slots Q (F0 m pc' ls (.ref (G.1 + a) :: rest))) : W p l e R s m args below meth c H locs cells slots Q (F0 m pc ls (.ref (G.1 + a) :: rest)) := by
  obtain ⟨d1, rfl⟩ := d
  have hKt : (gT G)[0]? = some (aI G, FieldType.int) := rfl
  exact va_castA C.1 C.2.1 C.2.2.2.2.1 (C.2.2.2.2.2.1 _ w1) P.1 a (by rw [WSn_get hk, he]) (C.2.2.2.2.2.2.1.2 0 _ hKt).2 d1 kk
theorem n_put (C : Cx G own cc nL ret p s m args meth c) (P : Hn G f n s H locs) {T : u_T} {C' : String} {N ci idx a : Nat} (hin : ∀ w ∈ u_ws C' T N, w ∈ WT) (ty0 : Nat → FieldType) (hty : ∀ k, k < N → parseFieldDescriptor (T k).2.2.1 = some (ty0 k)) (hnm : ∀ a, a < N → ∀ b, b < N → a ≠ b → (T a).2.1 ≠ (T b).2.1) (hc : vwCl[ci]? = some (C', T, N)) (k : Nat) (hk : k < N) (w1 : Cond.fieldLink own idx C' (T k).2.1 (T k).2.2.1 ∈ WT) (hown2 : (T k).1 = C') (hfin : (T k).2.2.2 = false) {fs : List Value} (ha : a < n) (he : f a = .inr (ci, fs)) {ty : FieldType} {v : Value} (hd : parseFieldDescriptor (T k).2.2.1 = some ty) (hn : narrow ty v = v) (hfit : fits ty v = true) (hl : k < fs.length) (d : Dc cc pc (.putfield idx) 3 pc')
    (kk : ∀ H1 L1, Hn G (fu f a (.inr (ci, fs.set k v))) n s H1 L1 → W p l e R s m args below meth c H1 L1 cells slots Q (F0 m pc' ls rest)) : W p l e R s m args below meth c H locs cells slots Q (F0 m pc ls (v :: .ref (G.1 + a) :: rest)) := by
  obtain ⟨d1, rfl⟩ := d
  have hts := C.2.2.2.2.2.1
  obtain ⟨hS0, hfc, kC, hkC, hkind⟩ := C.2.2.2.2.2.2.1.1 ci _ hc
  obtain ⟨r, h1, cell, q1, q2, q3, q4⟩ := P.1 a _ ((WSn_get ha).trans (by rw [he]))
  have hr : r = (C', T, N) := Option.some.inj (h1.symm.trans hc)
  subst hr
  obtain ⟨cf, kf, fi, fd, hi, hsl⟩ := hS0 k hk
  have hlay := hts _ (hin _ (u_in_lay hk))
  unfold u_lay at hlay
  rw [if_neg (by rw [hfin]; decide)] at hlay
  have hst := (u_facts hfc hkC (u_lays hts hin hk) hi).1
  have h6 := u_store hfc hkC hkind hlay hi hd hn hfit
  refine W.putK C.1 C.2.1 (f := fd) ⟨C.2.2.2.2.1, hts _ w1, ⟨_, _, _, by rw [← hown2]; exact hi⟩, hst⟩ (by rw [q2]; exact h6) q1 q3 (by rw [hsl]; exact k2_hasslot (q4 k hk)) rfl rfl d1 fun H' e1 e2 e3 => ?_
  rw [hsl] at e1 ⊢
  refine kk H' _ ⟨?_, by rw [e2]; exact P.2.1, P.2.2.put e2 e3 (Nat.le_add_right _ _)⟩
  rw [← WSn_set ha]
  exact P.1.set (WSn_D G f n) (WSn_get ha) ⟨_, hc, t_OB.to (V := updV (vp_V fs) k v) ⟨_, e1, q2, q3, t_set q4 (va_apart (own := own) hts hin ty0 hty hnm C.2.2.2.2.2.2.1 hc) hk v⟩ (fun j _ => vp_updV_set hl v j)⟩ e3
theorem n_putF (C : Cx G own cc nL ret p s m args meth c) (hname : meth.name = "<init>") (P : Hn G f n s H locs) {T : u_T} {N ci idx a : Nat} (hin : ∀ w ∈ u_ws own T N, w ∈ WT) (ty0 : Nat → FieldType) (hty : ∀ k, k < N → parseFieldDescriptor (T k).2.2.1 = some (ty0 k)) (hnm : ∀ a, a < N → ∀ b, b < N → a ≠ b → (T a).2.1 ≠ (T b).2.1) (hc : vwCl[ci]? = some (own, T, N)) (k : Nat) (hk : k < N) (w1 : Cond.fieldLink own idx own (T k).2.1 (T k).2.2.1 ∈ WT) (hown2 : (T k).1 = own) (hfin : (T k).2.2.2 = true) {fs : List Value} (ha : a < n) (he : f a = .inr (ci, fs)) {ty : FieldType} {v : Value} (hd : parseFieldDescriptor (T k).2.2.1 = some ty) (hn : narrow ty v = v) (hfit : fits ty v = true) (hl : k < fs.length) (d : Dc cc pc (.putfield idx) 3 pc')
    (kk : ∀ H1 L1, Hn G (fu f a (.inr (ci, fs.set k v))) n s H1 L1 → W p l e R s m args below meth c H1 L1 cells slots Q (F0 m pc' ls rest)) : W p l e R s m args below meth c H locs cells slots Q (F0 m pc ls (v :: .ref (G.1 + a) :: rest)) := by
  obtain ⟨d1, rfl⟩ := d
  have hts := C.2.2.2.2.2.1
  obtain ⟨hS0, hfc, kC, hkC, hkind⟩ := C.2.2.2.2.2.2.1.1 ci _ hc
  obtain ⟨r, h1, cell, q1, q2, q3, q4⟩ := P.1 a _ ((WSn_get ha).trans (by rw [he]))
  have hr : r = (own, T, N) := Option.some.inj (h1.symm.trans hc)
  subst hr
  obtain ⟨cf, kf, fi, fd, hi, hsl⟩ := hS0 k hk
  have hlay := hts _ (hin _ (u_in_lay hk))
  unfold u_lay at hlay
  rw [if_pos hfin] at hlay
  have hst := (u_facts hfc hkC (u_lays hts hin hk) hi).1
  have hcf : m.cls = cf := by
    obtain ⟨_, _, c', _, _, _, -, -, hf', -, -, -, hown3, -⟩ := Cond.laysFinal_spec hlay
    have e1 : c' = cf := by have := hi.symm.trans hf'; simp at this; exact this.1.symm
    rw [hown2] at hown3
    rw [← e1]; exact Option.some.inj (C.2.2.2.2.1.symm.trans hown3)
  have h6 := u_fits hfc hkC hkind (Or.inr hlay) hi hd hn hfit
  refine W.putFinK C.1 C.2.1 C.2.2.2.2.1 (hts _ w1) (by rw [← hown2]; exact hi) hst hcf hname (by rw [q2]; exact h6) q1 q3 (by rw [hsl]; exact k2_hasslot (q4 k hk)) rfl rfl d1 fun H' e1 e2 e3 => ?_
  rw [hsl] at e1 ⊢
  refine kk H' _ ⟨?_, by rw [e2]; exact P.2.1, P.2.2.put e2 e3 (Nat.le_add_right _ _)⟩
  rw [← WSn_set ha]
  exact P.1.set (WSn_D G f n) (WSn_get ha) ⟨_, hc, t_OB.to (V := updV (vp_V fs) k v) ⟨_, e1, q2, q3, t_set q4 (va_apart (own := own) hts hin ty0 hty hnm C.2.2.2.2.2.2.1 hc) hk v⟩ (fun j _ => vp_updV_set hl v j)⟩ e3
theorem n_get (C : Cx G own cc nL ret p s m args meth c) (P : Hn G f n s H locs) {T : u_T} {C' : String} {N ci idx a : Nat} (hin : ∀ w ∈ u_ws C' T N, w ∈ WT) (hc : vwCl[ci]? = some (C', T, N)) (k : Nat) (hk : k < N) (w1 : Cond.fieldLink own idx C' (T k).2.1 (T k).2.2.1 ∈ WT) (hown2 : (T k).1 = C') {fs : List Value} (ha : a < n) (he : f a = .inr (ci, fs)) {v : Value} (hv : fs[k]? = some v) (d : Dc cc pc (.getfield idx) 3 pc') (kk : W p l e R s m args below meth c H locs cells slots Q (F0 m pc' ls (v :: rest))) : W p l e R s m args below meth c H locs cells slots Q (F0 m pc ls (.ref (G.1 + a) :: rest)) := by
  obtain ⟨d1, rfl⟩ := d
  exact va_get C.1 C.2.1 C.2.2.2.2.2.1 hin C.2.2.2.2.1 C.2.2.2.2.2.2.1 P.1 a ((WSn_get ha).trans (by rw [he])) hc k hk (C.2.2.2.2.2.1 _ w1) (fun _ h9 => by rw [← hown2]; exact h9) hv d1 kk
theorem n_alen (C : Cx G own cc nL ret p s m args meth c) (P : Hn G f n s H locs) {a t0 : Nat} {cA : ClassId} {ty : FieldType} {x : vp_A} {v : Int32} (ht : (gT G)[t0]? = some (cA, ty)) (ha : a < n) (he : f a = .inl (cA, x)) (hv : Int32.ofNat x.1 = v) (d : Dc cc pc .arraylength 1 pc') (kk : W p l e R s m args below meth c H locs cells slots Q (F0 m pc' ls (.int v :: rest))) : W p l e R s m args below meth c H locs cells slots Q (F0 m pc ls (.ref (G.1 + a) :: rest)) := by
  obtain ⟨d1, rfl⟩ := d
  exact va_alen C.1 C.2.1 C.2.2.2.2.2.2.1 P.1 a t0 ((WSn_get ha).trans (by rw [he])) ht hv d1 kk
theorem n_aast (C : Cx G own cc nL ret p s m args meth c) (P : Hn G f n s H locs) {a b t0 ci N : Nat} {cA : ClassId} {r : vw_C} {g : Nat → Option Nat} {vs : List Value} (ht : (gT G)[t0]? = some (cA, .object r.1)) (hc : vwCl[ci]? = some r) (ha : a < n) (he : f a = .inl (cA, N, .inr (.inr (.inr (.inr g))))) (hb : b < n) (heb : f b = .inr (ci, vs)) {i : Int32} (hi : vp_in i N) (d : Dc cc pc .aastore 1 pc')
    (kk : ∀ H1 L1, Hn G (fu f a (.inl (cA, N, .inr (.inr (.inr (.inr (va_up g i.toNatClampNeg (some (G.1 + b))))))))) n s H1 L1 → W p l e R s m args below meth c H1 L1 cells slots Q (F0 m pc' ls rest)) : W p l e R s m args below meth c H locs cells slots Q (F0 m pc ls (.ref (G.1 + b) :: .int i :: .ref (G.1 + a) :: rest)) := by
  obtain ⟨d1, rfl⟩ := d
  have hlt : i.toNatClampNeg < N := Nat.not_le.mp fun q => hi (Or.inr q)
  have h0 : ¬ i < 0 := fun q => hi (Or.inl q)
  have hcell : va_at (gD G) vwCl (G.1 + a, .inl (cA, N, .inr (.inr (.inr (.inr g))))) H := P.1 a _ ((WSn_get ha).trans (by rw [he]))
  obtain ⟨r', hr', cellV, g1, g2, g3, -⟩ := P.1 b _ ((WSn_get hb).trans (by rw [heb]))
  have hK := C.2.2.2.2.2.2.1
  have hcls := (hK.1 ci r hc).2
  obtain ⟨kA, comp, k1, k2, k3, -⟩ := (hK.2 t0 _ ht).2
  have hcomp : comp = (gD G).1 ci := Option.some.inj (k3.symm.trans hcls.1)
  subst hcomp
  obtain ⟨kC, hkC, -⟩ := hcls.2
  refine W.aast C.1 C.2.1 hcell (fun q h => by cases h) (fun h => by cases h) k1 k2 rfl hkC ⟨h0, by show _ < (arrV _ _ _).slots.size; rw [arrV_size]; exact hlt⟩ g1 (fun q h => by rw [g3] at h; cases h) (by rw [g2]; exact hkC) (by rw [g2]; exact va_assign hcls) rfl rfl d1 fun H1 e z oq => ?_
  refine kk H1 _ ⟨?_, by rw [z]; exact P.2.1, P.2.2.put z oq (Nat.le_add_right _ _)⟩
  rw [← WSn_set ha]
  refine P.1.set (WSn_D G f n) (WSn_get ha) ?_ oq
  show H1[G.1 + a]? = some (vp_cell _ _)
  rw [e]
  rw [vp_cell_q, vp_cell_q, arrV_store]
  congr 2
  funext q
  by_cases hq : q = i.toNatClampNeg
  · subst hq
    simp [updV, va_up, va_rf]
  · simp [updV, va_up, hq]
theorem n_iast (C : Cx G own cc nL ret p s m args meth c) (P : Hn G f n s H locs) {a N : Nat} {g : Nat → Int32} (ha : a < n) (he : f a = .inl (aI G, N, .inl g)) {i x : Int32} (hi : vp_in i N) (d : Dc cc pc .iastore 1 pc')
    (kk : ∀ H1 L1, Hn G (fu f a (.inl (aI G, N, .inl (upd g i.toNatClampNeg x)))) n s H1 L1 → W p l e R s m args below meth c H1 L1 cells slots Q (F0 m pc' ls rest)) : W p l e R s m args below meth c H locs cells slots Q (F0 m pc ls (.int x :: .int i :: .ref (G.1 + a) :: rest)) := by
  obtain ⟨d1, rfl⟩ := d
  have hcell : va_at (gD G) vwCl (G.1 + a, .inl (aI G, N, .inl g)) H := P.1 a _ ((WSn_get ha).trans (by rw [he]))
  refine W.iast C.1 C.2.1 hcell ((C.2.2.2.2.2.2.1.2 0 (aI G, .int) rfl).1 N (fun j => .int (g j))) (fun q => by cases q) (by show ¬ (i < 0 ∨ (arrV _ _ _).slots.size ≤ _); rw [arrV_size]; exact hi) rfl rfl d1 fun H1 e z oq => ?_
  refine kk H1 _ ⟨?_, by rw [z]; exact P.2.1, P.2.2.put z oq (Nat.le_add_right _ _)⟩
  rw [← WSn_set ha]
  refine P.1.set (WSn_D G f n) (WSn_get ha) ?_ oq
  show H1[G.1 + a]? = some (vp_cell _ _)
  rw [e]
  rw [vp_cell_i, vp_cell_i, arrV_store]
  congr 2
  funext q
  by_cases hq : q = i.toNatClampNeg
  · subst hq
    simp [updV, upd]
  · simp [updV, upd, hq]
end NR
