/-! the world: numbers by kind, object and place -/
abbrev OM : Type := (Nat → Nat → Nat → Int32) × (Nat → Int64)
def rd (o : OM) (k i j : Nat) : Int32 := o.1 k i j
def wrA (o : OM) (k i : Nat) (f : Nat → Int32) : OM := (fun a b => if a = k ∧ b = i then f else o.1 a b, o.2)
def wr (o : OM) (k i j : Nat) (v : Int32) : OM := wrA o k i (upd (o.1 k i) j v)
def rdL (o : OM) (k : Nat) : Int64 := o.2 k
def wrL (o : OM) (k : Nat) (v : Int64) : OM := (o.1, fun a => if a = k then v else o.2 a)
abbrev Gd : Type := Nat × (Nat → ClassId) × (Nat → Nat → Nat) × (ClassId × ClassId × ClassId × ClassId × ClassId × Nat × Nat)
abbrev gD (G : Gd) : va_G := (G.2.1, G.2.2.1)
abbrev aI (G : Gd) : ClassId := G.2.2.2.1
abbrev aC (G : Gd) : ClassId := G.2.2.2.2.1
abbrev aJ (G : Gd) : ClassId := G.2.2.2.2.2.1
abbrev aS (G : Gd) : ClassId := G.2.2.2.2.2.2.1
abbrev aT (G : Gd) : ClassId := G.2.2.2.2.2.2.2.1
/-- the cell of a constant row; how far the law's own row lies behind this object -/
abbrev aL (G : Gd) : Nat := G.2.2.2.2.2.2.2.2.1
abbrev aN (G : Gd) : Nat := G.2.2.2.2.2.2.2.2.2
def gT (G : Gd) : List (ClassId × FieldType) := [(aI G, .int), (aC G, .char), (aI G, .int), (aS G, .object RX2), (aT G, .object RX3)]
/-! where the cells lie -/
def sO (j : Nat) : Nat := if j = 0 then 1 else if j = 1 then 59 else 58 * j + 3
def tO (t : Nat) : Nat := sO (t / 6) + 4 + 9 * (t % 6)
def adr (k i : Nat) : Nat := match k with
  | 0 => 0
  | 1 => sO i
  | 2 => sO i + 1
  | 3 => sO i + 2
  | 4 => sO i + 3
  | 5 => tO i
  | 6 => tO i + 1
  | 7 => tO i + 2
  | 8 => tO i + 3
  | 9 => tO i + 4
  | 10 => tO i + 5
  | 11 => tO i + 6
  | 12 => tO i + 7
  | 13 => tO i + 8
  | 14 => 117
  | 15 => 118
  | 16 => 467
  | 17 => 468
  | 18 => 469
  | _ => 470
def okb (k i : Nat) : Bool := match k with
  | 1 | 2 | 3 | 4 => decide (i < 8)
  | 5 | 6 | 7 | 8 | 9 | 10 | 11 | 12 | 13 => decide (i < 48)
  | k => decide (i = 0) && (decide (k < 19) || decide (k = 24))
def stK (r j : Nat) : Nat × Nat := if r < 4 then (r + 1, j) else (5 + (r - 4) % 9, 6 * j + (r - 4) / 9)
def kd (n : Nat) : Nat × Nat := if n = 0 then (0, 0) else if n < 117 then stK ((n - 1) % 58) ((n - 1) / 58) else if n = 117 then (14, 0) else if n = 118 then (15, 0) else if n < 467 then stK ((n - 119) % 58) ((n - 119) / 58 + 2) else if n < 470 then (n - 451, 0) else (24, 0)
theorem kd_adr0 : ∀ k, k < 25 → ∀ i, i < 48 → okb k i = true → kd (adr k i) = (k, i) ∧ adr k i < 471 := by decide +kernel
theorem adr_kd0 : ∀ n, n < 471 → adr (kd n).1 (kd n).2 = n ∧ okb (kd n).1 (kd n).2 = true := by decide +kernel
theorem okb_lt {k i : Nat} (h : okb k i = true) : k < 25 ∧ i < 48 := by
  unfold okb at h
  split at h <;> simp at h <;> omega
theorem kd_adr {k i : Nat} (h : okb k i = true) : kd (adr k i) = (k, i) ∧ adr k i < 471 := kd_adr0 k (okb_lt h).1 i (okb_lt h).2 h
def adW (G : Gd) (n : Nat) : Nat := if n = 470 then G.1 + 470 + aN G else G.1 + n
def rA (G : Gd) (k i : Nat) : Nat := if k = 24 then G.1 + 470 + aN G else G.1 + adr k i
def tid (j : Nat) (v : Int32) : Nat := 6 * j + v.toNatClampNeg % 6
/-- what the cell of a kind and number holds -/
def cl0 (G : Gd) (k i : Nat) (f : Nat → Int32) (x : Int64) : va_E := match k with
  | 0 => .inr (5, [.ref (rA G 1 0), .ref (rA G 1 1), .ref (rA G 14 0), .ref (rA G 16 0), .int (f 4)])
  | 1 => .inr (2, [.int (f 0), .int (f 1), .int (f 2), .int (f 3), .int (f 4), .ref (rA G 2 i), .ref (rA G 3 i), .ref (rA G 4 i)])
  | 2 => .inl (aI G, 4, .inl f)
  | 3 => .inl (aI G, 7, .inl f)
  | 4 => .inl (aT G, 6, .inr (.inr (.inr (.inr (fun n => some (rA G 5 (tid i (f n))))))))
  | 5 => .inr (3, [.int (f 0), .int (f 1), .int (f 2), .int (f 3), .int (f 4), .int (f 5), .int (f 6), .ref (rA G 6 i)])
  | 6 => .inr (1, [.int (f 0), .ref (rA G 7 i), .ref (rA G 8 i), .ref (rA G 9 i), .ref (rA G 10 i), .ref (rA G 11 i), .ref (rA G 12 i), .ref (rA G 13 i)])
  | 7 | 8 | 9 | 10 | 11 | 12 | 13 => .inl (aI G, 10, .inl f)
  | 14 => .inr (0, [.int (f 0), .int (f 1), .ref (rA G 15 0)])
  | 15 => .inl (aS G, 6, .inr (.inr (.inr (.inr (fun n => some (rA G 1 (n + 2)))))))
  | 16 => .inr (4, [.int (f 0), .ref (rA G 17 0), .int (f 2), .int (f 3), .ref (rA G 18 0), .int (f 5)])
  | 17 => .inl (aC G, 60, .inl f)
  | 18 => .inl (aI G, 3, .inl f)
  | _ => .inl (aI G, 1, .inl f)
def cel (G : Gd) (o : OM) (k i : Nat) : va_E := cl0 G k i (o.1 k i) (o.2 k)
def WS (G : Gd) (o : OM) : va_W := (List.range 471).map (fun n => (adW G n, cel G o (kd n).1 (kd n).2))
theorem WS_get {G : Gd} {o : OM} {n : Nat} (h : n < 471) : (WS G o)[n]? = some (adW G n, cel G o (kd n).1 (kd n).2) := by
  unfold WS
  rw [List.getElem?_map, List.getElem?_range h]
  rfl
theorem WS_out {G : Gd} {o : OM} {n : Nat} (h : ¬ n < 471) : (WS G o)[n]? = none := by
  apply List.getElem?_eq_none
  unfold WS
  rw [List.length_map, List.length_range]
  omega
theorem adr_W {G : Gd} {k i : Nat} (h : okb k i = true) : adW G (adr k i) = rA G k i := by
  obtain ⟨h1, h2⟩ := kd_adr h
  unfold adW rA
  by_cases hk : k = 24
  · subst hk
    rw [show adr 24 i = 470 from rfl, if_pos rfl, if_pos rfl]
  · rw [if_neg hk, if_neg]
    intro h3
    rw [h3] at h1
    exact hk (congrArg Prod.fst h1).symm
theorem WS_at {G : Gd} {o : OM} {k i : Nat} (h : okb k i = true) : (WS G o)[adr k i]? = some (rA G k i, cel G o k i) := by
  obtain ⟨h1, h2⟩ := kd_adr h
  rw [WS_get h2, h1, adr_W h]
abbrev fr (G : Gd) : Nat → Prop := fun q : Nat => (G.1 ≤ q ∧ q < G.1 + 470) ∨ q = G.1 + 470 + aN G
abbrev frN (G : Gd) : Nat → Prop := fun q : Nat => G.1 ≤ q
theorem adW_fr (G : Gd) {n : Nat} (h : n < 471) : fr G (adW G n) := by
  unfold adW
  show (_ ∧ _) ∨ _
  split <;> omega
theorem WS_D (G : Gd) (o : OM) : va_D (fr G) (WS G o) := by
  refine ⟨fun i j p q hi hj hpq => ?_, fun k q hk => ?_⟩
  · by_cases h1 : i < 471
    · by_cases h2 : j < 471
      · rw [WS_get h1] at hi
        rw [WS_get h2] at hj
        cases hi; cases hj
        have h3 : adW G i = adW G j := hpq
        unfold adW at h3
        split at h3 <;> split at h3 <;> omega
      · rw [WS_out h2] at hj; cases hj
    · rw [WS_out h1] at hi; cases hi
  · by_cases h1 : k < 471
    · rw [WS_get h1] at hk
      cases hk
      exact adW_fr G h1
    · rw [WS_out h1] at hk; cases hk
theorem WS_set {G : Gd} {o o' : OM} {k i : Nat} {e : va_E} (h : okb k i = true) (he : cel G o' k i = e) (hn : ∀ a b, okb a b = true → ¬ (a = k ∧ b = i) → cel G o' a b = cel G o a b) : (WS G o).set (adr k i) (rA G k i, e) = WS G o' := by
  obtain ⟨h1, h2⟩ := kd_adr h
  apply List.ext_getElem?
  intro n
  by_cases hn' : n < 471
  · rw [WS_get hn']
    by_cases hk : n = adr k i
    · subst hk
      have hl : adr k i < (WS G o).length := by
        unfold WS
        rw [List.length_map, List.length_range]
        exact h2
      rw [List.getElem?_set_self hl, h1]
      rw [← he, adr_W h]
    · rw [List.getElem?_set_ne (fun z => hk z.symm), WS_get hn']
      obtain ⟨g1, g2⟩ := adr_kd0 n hn'
      rw [hn _ _ g2 (fun z => hk (by rw [← g1, z.1, z.2]))]
  · rw [WS_out hn']
    by_cases hk : n = adr k i
    · omega
    · rw [List.getElem?_set_ne (fun z => hk z.symm), WS_out hn']
theorem cel_wrA {G : Gd} {o : OM} {k i : Nat} {f : Nat → Int32} {a b : Nat} (h : ¬ (a = k ∧ b = i)) : cel G (wrA o k i f) a b = cel G o a b := by
  unfold cel wrA
  simp only [if_neg h]
theorem cel_self {G : Gd} {o : OM} {k i : Nat} {f : Nat → Int32} : cel G (wrA o k i f) k i = cl0 G k i f (o.2 k) := by
  unfold cel wrA
  simp
/-! what the numbers say of a run -/
def inB (x : Int32) (n : Nat) : Bool := decide (¬ (x < 0 ∨ n ≤ x.toNatClampNeg))
def ofB (b : Bool) : Int32 := if b then 1 else 0
def isZ (x : Int32) : Bool := decide (x = 0) || decide (x = 1)
def grd {α : Type} (b : Bool) (k : Option α) : Option α := if b = true then k else none
def bd {α β : Type} (a : α) (k : α → β) : β := k a
def bn {α β γ : Type} (x : Option (α × β)) (k : α → β → Option γ) : Option γ := match x with
  | none => none
  | some q => k q.1 q.2
def FU : Nat := 2000
theorem inB_in {x : Int32} {n : Nat} (h : inB x n = true) : vp_in x n := by unfold vp_in; exact of_decide_eq_true h
theorem grd_s {α : Type} {b : Bool} {k : Option α} {z : α} (h : grd b k = some z) : b = true ∧ k = some z := by
  unfold grd at h
  split at h
  · exact ⟨by assumption, h⟩
  · cases h
theorem bn_s {α β γ : Type} {x : Option (α × β)} {k : α → β → Option γ} {z : γ} (h : bn x k = some z) : ∃ a b, x = some (a, b) ∧ k a b = some z := by
  unfold bn at h
  split at h
  · cases h
  · exact ⟨_, _, rfl, h⟩
theorem ite_y {α : Type} {c : Prop} [Decidable c] {a b z : α} (h : (if c then a else b) = z) (hc : c) : a = z := by rw [if_pos hc] at h; exact h
theorem ite_n {α : Type} {c : Prop} [Decidable c] {a b z : α} (h : (if c then a else b) = z) (hc : ¬ c) : b = z := by rw [if_neg hc] at h; exact h
/-! a method's contract -/
def Dc (cc : ByteArray) (pc : Nat) (i : Instr) (n pc' : Nat) : Prop := decode cc pc = .ok (i, n) ∧ pc + n = pc'
def Dj (cc : ByteArray) (pc : Nat) (i : Instr) (n pc' : Nat) (off : Int) (tgt : Nat) : Prop := decode cc pc = .ok (i, n) ∧ pc + n = pc' ∧ (pc : Int) + off = (tgt : Int)
def Cx (G : Gd) (own : String) (cc : ByteArray) (nL : Nat) (ret : Option FieldType) (p : Program) (s : State) (m : MethodId) (args : Array Value) (meth : Method) (c : Code) : Prop :=
  p.tables.exec = Jvm.exec ∧ c.code = cc ∧ c.maxLocals = nL ∧ meth.sig.returnType = ret ∧ s.vm.findClass own = some m.cls ∧ (∀ w ∈ WT, w.before args s = true) ∧ va_K (gD G) vwCl (gT G) s ∧ meth.locks = false ∧ G.1 ≤ s.heap.size
def Hp (G : Gd) (o : OM) (s : State) (H : Heap) (locs : List Loc) : Prop := va_P (gD G) vwCl (WS G o) H ∧ va_S (fr G) s.heap H locs
def PreG (G : Gd) (o : OM) (U : State) : Prop := va_P (gD G) vwCl (WS G o) U.heap ∧ va_K (gD G) vwCl (gT G) U ∧ G.1 ≤ U.heap.size
def QcG (G : Gd) (rv : Option Value) (o' : OM) : Array Value → State → Outcome → State → Prop := fun _ st oc t => oc = .returned rv ∧ va_P (gD G) vwCl (WS G o') t.heap ∧ va_F (fr G) st t
abbrev Ct (l : Launch) (y : MethodName) (cc : ByteArray) (maxL : Nat) (ret : Option FieldType) (rm : Room) (G : Gd) (As : List Value) (o : OM) (rv : Option Value) (o' : OM) : Prop :=
  Met l y (Cond.code y cc maxL ret :: WT) rm (va_Pc As (PreG G o)) (QcG G rv o') rm.cells rm.slots (fr G)
abbrev Qm (G : Gd) (rv : Option Value) (o' : OM) (rm : Room) (below : List Frame) (args : Array Value) (s : State) : State → Prop := MQ below (QcG G rv o') args s rm.cells rm.slots (fr G)
theorem ofWF {l : Launch} {y : MethodName} {ws ws' : List Cond} {rm : Room} {Pc : Array Value → State → Prop} {Qc : Array Value → State → Outcome → State → Prop} {mc ms : Nat} {free : Addr → Prop} {cc : ByteArray} {maxL : Nat} {ret : Option FieldType}
    (hy : plainFor y = true) (hw : ws = Cond.code y cc maxL ret :: ws')
    (body : ∀ p e s m args below meth c s₁, BodyLoose p l y (headSpec ws rm) cc maxL ret e s m args below meth c s₁ → c.maxLocals = maxL → Pc args s →
      W p l e (headSpec ws rm).room s m args below meth c s.heap [] 0 0 (MQ below Qc args s mc ms free) (entryFrame m args maxL)) : Met l y ws rm Pc Qc mc ms free := by
  refine MetFree.of_bodyRF (code := cc) (maxLocals := maxL) (ret := ret) hy ?_ ?_
  · intro args s m h hn
    obtain ⟨meth, c, h1, h2, h3, h4, h5, h6, -, -⟩ := Cond.code_spec hn (atoms_spec (ws := ws) h _ (by rw [hw]; exact List.mem_cons_self))
    exact ⟨meth, c, h1, h2, h3, h4, h5, h6⟩
  · intro p e s m args below meth c s₁ B hml hP _ hst
    have hh0 : s₁.heap = s.heap := by rw [B.state]; rfl
    obtain ⟨t, a1, o, b1, b2, b3⟩ := body p e s m args below meth c s₁ B hml hP s₁ hh0 (Stand.of_body B)
    exact ⟨t, o, Steps.trans hst a1, b1, b2, ⟨b3.1, b3.2⟩⟩
theorem ct_of {l : Launch} {y : MethodName} {cc : ByteArray} {maxL : Nat} {ret : Option FieldType} {rm : Room} {G : Gd} {As : List Value} {o : OM} {rv : Option Value} {o' : OM} (hy : plainFor y = true) (hl : (lg_sl As).length ≤ maxL)
    (body : ∀ p e s m below meth c ls, Cx G y.cls cc maxL ret p s m As.toArray meth c → Hp G o s s.heap [] → lv_has ls maxL (lv_args 0 As) →
      W p l e rm s m As.toArray below meth c s.heap [] 0 0 (Qm G rv o' rm below As.toArray s) (F0 m 0 ls [])) : Ct l y cc maxL ret rm G As o rv o' := by
  refine ofWF (cc := cc) (maxL := maxL) (ret := ret) hy rfl ?_
  intro p e s m args below meth c s₁ B hml hv
  obtain ⟨rfl, hP, hK, hz⟩ := hv
  have hts := atoms_spec (ws := Cond.code y cc maxL ret :: WT) B.pre
  have hC : Cx G y.cls cc maxL ret p s m As.toArray meth c := ⟨B.exec, B.bytes, hml, B.returns, findClass_of_methodNamed B.named, fun w hw => hts w (List.mem_cons_of_mem _ hw), hK, B.notSynchronized, hz⟩
  have h := body p e s m below meth c _ hC ⟨hP, va_S.rf⟩ (lv_entry As (n := maxL) hl)
  rw [lg_entry_eq]
  exact h
section FR
variable {G : Gd} {own : String} {cc : ByteArray} {nL : Nat} {ret : Option FieldType} {p : Program} {l : Launch} {e : Env} {R : Room} {s : State} {m : MethodId} {args : Array Value} {below : List Frame} {meth : Method} {c : Code} {H : Heap} {locs : List Loc} {cells slots : Nat} {Q : State → Prop} {o : OM}
variable {pc pc' : Nat} {ls : Array Slot} {rest : List Value}
/-- behind a write of a cell -/
theorem Hp.put (P : Hp G o s H locs) {o' : OM} {H1 : Heap} {L1 : List Loc} {ws : va_W} (e : ws = WS G o') (h : va_P (gD G) vwCl ws H1) (hS : va_S (fr G) s.heap H1 L1) : Hp G o' s H1 L1 := ⟨e ▸ h, hS⟩
theorem r_iald (C : Cx G own cc nL ret p s m args meth c) (P : Hp G o s H locs) {k i n : Nat} (hc : ∀ f x, cl0 G k i f x = .inl (aI G, n, .inl f)) (h : okb k i = true) {x : Int32} (d : Dc cc pc .iaload 1 pc') {α : Type} {K : Option α} {z : α} (hf : grd (inB x n) K = some z)
    (kk : K = some z → W p l e R s m args below meth c H locs cells slots Q (F0 m pc' ls (.int (rd o k i x.toNatClampNeg) :: rest))) : W p l e R s m args below meth c H locs cells slots Q (F0 m pc ls (.int x :: .ref (rA G k i) :: rest)) := by
  obtain ⟨d1, rfl⟩ := d
  obtain ⟨g1, g2⟩ := grd_s hf
  have ha : (WS G o)[adr k i]? = some (rA G k i, .inl (aI G, n, .inl (o.1 k i))) := (WS_at h).trans (by unfold cel; rw [hc])
  exact va_iald C.1 C.2.1 C.2.2.2.2.2.2.1 P.1 (adr k i) 0 ha rfl (inB_in g1) d1 (kk g2)
theorem r_iast (C : Cx G own cc nL ret p s m args meth c) (P : Hp G o s H locs) {k i n : Nat} (hc : ∀ f x, cl0 G k i f x = .inl (aI G, n, .inl f)) (h : okb k i = true) {x v : Int32} (d : Dc cc pc .iastore 1 pc') {α : Type} {K : OM → Option α} {z : α} (hf : grd (inB x n) (bd (wr o k i x.toNatClampNeg v) K) = some z)
    (kk : ∀ o1 H1 L1, Hp G o1 s H1 L1 → K o1 = some z → W p l e R s m args below meth c H1 L1 cells slots Q (F0 m pc' ls rest)) : W p l e R s m args below meth c H locs cells slots Q (F0 m pc ls (.int v :: .int x :: .ref (rA G k i) :: rest)) := by
  obtain ⟨d1, rfl⟩ := d
  obtain ⟨g1, g2⟩ := grd_s hf
  have ha : (WS G o)[adr k i]? = some (rA G k i, .inl (aI G, n, .inl (o.1 k i))) := (WS_at h).trans (by unfold cel; rw [hc])
  refine va_iast C.1 C.2.1 C.2.2.2.2.2.2.1 P.1 (WS_D G o) P.2 (adr k i) 0 ha rfl (inB_in g1) d1 (fun H1 L1 h1 _ h3 => kk (wr o k i x.toNatClampNeg v) H1 L1 (P.put ?_ h1 h3) g2)
  exact WS_set h (by unfold wr; rw [cel_self, hc]) (fun a b _ hab => by unfold wr; exact cel_wrA hab)
theorem r_iadd (C : Cx G own cc nL ret p s m args meth c) {x y : Int32} (d : Dc cc pc .iadd 1 pc') (kk : W p l e R s m args below meth c H locs cells slots Q (F0 m pc' ls (.int (x + y) :: rest))) : W p l e R s m args below meth c H locs cells slots Q (F0 m pc ls (.int y :: .int x :: rest)) := by
  obtain ⟨d1, rfl⟩ := d
  exact lv_iadd C.1 C.2.1 d1 kk
end FR
