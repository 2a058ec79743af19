/-! two objects, and the law's own row behind them -/
abbrev pG (G : Gd) : Gd := (G.1 + 470, G.2.1, G.2.2.1, aI G, aC G, aJ G, aS G, aT G, aL G, 0)
abbrev OM2 : Type := OM × OM
def sy (o p : OM) : OM := (fun k i => if k = 24 then o.1 k i else p.1 k i, p.2)
def Hp2 (G : Gd) (w : OM2) (s : State) (H : Heap) (locs : List Loc) : Prop := va_P (gD G) vwCl (WS G w.1) H ∧ va_P (gD G) vwCl (WS (pG G) w.2) H ∧ va_S (frN G) s.heap H locs ∧ aN G = 470
theorem kd_470 : kd 470 = (24, 0) := by decide +kernel
theorem kd_ne0 : ∀ n, n < 470 → (kd n).1 ≠ 24 := by decide +kernel
theorem cel_sy {G : Gd} {o p : OM} {n : Nat} (h : n < 470) : cel G (sy o p) (kd n).1 (kd n).2 = cel G p (kd n).1 (kd n).2 := by
  unfold cel sy
  simp only [if_neg (kd_ne0 n h)]
theorem cel_out (G : Gd) (o : OM) : cel G o (kd 470).1 (kd 470).2 = .inl (aI G, 1, .inl (o.1 24 0)) := by
  rw [kd_470]
  rfl
theorem adW_lt {G : Gd} {n : Nat} (h : n < 470) : adW G n = G.1 + n := by
  unfold adW
  rw [if_neg (by omega)]
theorem adW_470 {G : Gd} : adW G 470 = G.1 + 470 + aN G := by
  unfold adW
  rw [if_pos rfl]
theorem two_1 {G : Gd} {o1 p : OM} {H H1 : Heap} (hN : aN G = 470) (P2 : va_P (gD G) vwCl (WS (pG G) p) H) (h1 : va_P (gD G) vwCl (WS G o1) H1) (hk : ∀ q : Nat, q < H.size → ¬ fr G q → H1[q]? = H[q]?) : va_P (gD G) vwCl (WS (pG G) (sy o1 p)) H1 := by
  intro k q hq
  by_cases hn : k < 471
  · rw [WS_get hn] at hq
    cases hq
    by_cases h : k = 470
    · subst h
      have e := h1 470 _ (WS_get (by omega))
      rw [cel_out] at e ⊢
      rw [adW_470] at e ⊢
      rw [hN] at e
      exact e
    · have e := P2 k _ (WS_get hn)
      have hl := e.lt
      rw [cel_sy (by omega)]
      refine e.kept ?_
      dsimp only at hl ⊢
      rw [adW_lt (by omega)] at hl ⊢
      refine hk _ hl ?_
      have e3 : (pG G).1 = G.1 + 470 := rfl
      have e4 : aN (pG G) = 0 := rfl
      show ¬ ((_ ∧ _) ∨ _)
      omega
  · rw [WS_out hn] at hq
    cases hq
theorem two_2 {G : Gd} {o p1 : OM} {H H1 : Heap} (hN : aN G = 470) (P1 : va_P (gD G) vwCl (WS G o) H) (h1 : va_P (gD G) vwCl (WS (pG G) p1) H1) (hk : ∀ q : Nat, q < H.size → ¬ fr (pG G) q → H1[q]? = H[q]?) : va_P (gD G) vwCl (WS G (sy p1 o)) H1 := by
  intro k q hq
  by_cases hn : k < 471
  · rw [WS_get hn] at hq
    cases hq
    by_cases h : k = 470
    · subst h
      have e := h1 470 _ (WS_get (by omega))
      rw [cel_out] at e ⊢
      rw [adW_470] at e ⊢
      rw [hN]
      exact e
    · have e := P1 k _ (WS_get hn)
      have hl := e.lt
      rw [cel_sy (by omega)]
      refine e.kept ?_
      dsimp only at hl ⊢
      rw [adW_lt (by omega)] at hl ⊢
      refine hk _ hl ?_
      have e3 : (pG G).1 = G.1 + 470 := rfl
      have e4 : aN (pG G) = 0 := rfl
      show ¬ ((_ ∧ _) ∨ _)
      omega
  · rw [WS_out hn] at hq
    cases hq
theorem fr_1 {G : Gd} : ∀ q, fr G q → frN G q := fun q h => by
  rcases h with h | h
  · exact h.1
  · show G.1 ≤ q
    omega
theorem fr_2 {G : Gd} : ∀ q, fr (pG G) q → frN G q := fun q h => by
  have e3 : (pG G).1 = G.1 + 470 := rfl
  have e4 : aN (pG G) = 0 := rfl
  rcases h with h | h
  · have := h.1
    show G.1 ≤ q
    omega
  · show G.1 ≤ q
    omega
def on1 {α : Type} (x : Option (α × OM)) (w : OM2) : Option (α × OM2) := bn x (fun r o1 => some (r, (o1, sy o1 w.2)))
def on2 {α : Type} (x : Option (α × OM)) (w : OM2) : Option (α × OM2) := bn x (fun r p1 => some (r, (sy p1 w.1, p1)))
theorem on1_s {α : Type} {x : Option (α × OM)} {w w1 : OM2} {r : α} (h : on1 x w = some (r, w1)) : ∃ o1, x = some (r, o1) ∧ w1 = (o1, sy o1 w.2) := by
  obtain ⟨a, b, h1, h2⟩ := bn_s h
  cases h2
  exact ⟨b, h1, rfl⟩
theorem on2_s {α : Type} {x : Option (α × OM)} {w w1 : OM2} {r : α} (h : on2 x w = some (r, w1)) : ∃ p1, x = some (r, p1) ∧ w1 = (sy p1 w.1, p1) := by
  obtain ⟨a, b, h1, h2⟩ := bn_s h
  cases h2
  exact ⟨b, h1, rfl⟩
abbrev X2 (G : Gd) (s : State) : Prop := XWA (frN G) (aL G) s
section TW
variable {G : Gd} {own : String} {cc : ByteArray} {nL : Nat} {ret : Option FieldType} {p : Program} {l : Launch} {e : Env} {R : Room} {s : State} {m : MethodId} {args : Array Value} {below : List Frame} {meth : Method} {c : Code} {H : Heap} {locs : List Loc} {cells slots : Nat} {Q : State → Prop} {w : OM2}
variable {pc pc' : Nat} {ls : Array Slot} {rest : List Value}
theorem lt_2 (P : Hp2 G w s H locs) : G.1 + 470 ≤ H.size := by
  have e := P.2.1 0 _ (WS_get (by omega))
  have hl := e.lt
  dsimp only at hl
  rw [adW_lt (by omega)] at hl
  exact Nat.le_of_lt hl
theorem hp2_S {A : Nat → Prop} {H1 : Heap} {L : List Loc} (P : Hp2 G w s H locs) (hA : ∀ q, A q → frN G q) (hz : H.size ≤ H1.size) (hk : ∀ q : Nat, q < H.size → ¬ A q → H1[q]? = H[q]?) (hL : ∀ q ∈ L, A q.base) : va_S (frN G) s.heap H1 (locs ++ L) := ⟨Nat.le_trans P.2.2.1.1 hz, fun q h1 h2 => by rw [hk q (Nat.lt_of_lt_of_le h1 P.2.2.1.1) (fun z => h2 (hA _ z))]; exact P.2.2.1.2.1 q h1 h2, fun q hq => by
  rcases List.mem_append.mp hq with h | h
  · exact P.2.2.1.2.2 q h
  · exact hA _ (hL q h)⟩
theorem pre1_W (C : Cx G own cc nL ret p s m args meth c) (X : X2 G s) (P : Hp2 G w s H locs) {As : List Value} : PreS s H (va_Pc As (PreW G w.1)) As := ⟨fun a U g mk q => ⟨q.1, ⟨q.2.1.1, va_K.moved (u := U) (U := U.calling g mk a) (Vm.Alike.refl U.vm) q.2.1.2.1, q.2.1.2.2⟩, q.2.2.calling⟩, fun U hU hW => ⟨rfl, ⟨by rw [hU]; exact P.1, va_K.moved hW.alike C.2.2.2.2.2.2.1, by rw [hU]; exact Nat.le_trans C.2.2.2.2.2.2.2.2 P.2.2.1.1⟩, (X.to P.2.2.1 hU hW).narrow fr_1⟩⟩
theorem pre1_X (C : Cx G own cc nL ret p s m args meth c) (X : X2 G s) (P : Hp2 G w s H locs) {As : List Value} : PreS s H (va_Pc As (PreX G w.1)) As := ⟨fun a U g mk q => ⟨q.1, ⟨q.2.1.1, va_K.moved (u := U) (U := U.calling g mk a) (Vm.Alike.refl U.vm) q.2.1.2.1, q.2.1.2.2⟩, q.2.2.calling⟩, fun U hU hW => ⟨rfl, ⟨by rw [hU]; exact P.1, va_K.moved hW.alike C.2.2.2.2.2.2.1, by rw [hU]; exact Nat.le_trans C.2.2.2.2.2.2.2.2 P.2.2.1.1⟩, ((X.to P.2.2.1 hU hW).narrow fr_1).1⟩⟩
theorem hp2_1 (P : Hp2 G w s H locs) {o1 : OM} {H1 : Heap} {L : List Loc} (h1 : va_P (gD G) vwCl (WS G o1) H1) (hz : H.size ≤ H1.size) (hk : ∀ q : Nat, q < H.size → ¬ fr G q → H1[q]? = H[q]?) (hL : ∀ q ∈ L, fr G q.base) : Hp2 G (o1, sy o1 w.2) s H1 (locs ++ L) := ⟨h1, two_1 P.2.2.2 P.2.1 h1 hk, hp2_S P fr_1 hz hk hL, P.2.2.2⟩
theorem t_run1 {rv : Option Value} {o1 : OM} {a : Array Value} {st0 : List Value} {mc ms : Nat} (hr : va_Run p l e R s m args below meth c H locs cells slots mc ms (F0 m pc ls st0) rest (QcG G rv o1 a) (fr G)) (P : Hp2 G w s H locs) (kk : ∀ H1 L1, Hp2 G (o1, sy o1 w.2) s H1 L1 → W p l e R s m args below meth c H1 L1 (cells + mc) (slots + ms) Q (F0 m (pc + 3) ls (rv.toList ++ rest))) : W p l e R s m args below meth c H locs cells slots Q (F0 m pc ls st0) := by
  intro T hT X
  obtain ⟨v, st₀, t, T', L, h0, X', hL, e1, e2, ⟨hv, hP1, hz, hk⟩, st⟩ := hr T hT X
  cases hv
  rw [h0] at hz hk
  obtain ⟨t2, a1, b1⟩ := kk T'.heap (locs ++ L) (hp2_1 P (by rw [e1]; exact hP1) (by rw [e1]; exact hz) (fun q h1 h2 => by rw [e1]; exact hk q h1 h2) hL) T' rfl X'
  exact ⟨t2, st t2 a1, b1⟩
/-- the law's own methods of one object -/
theorem t_cS1 (C : Cx G own cc nL ret p s m args meth c) (X : X2 G s) (P : Hp2 G w s H locs) {idx : Nat} {y : MethodName} {bytes : ByteArray} {maxL n : Nat} {rt : Option FieldType} (F : CallF true own idx y bytes maxL rt n) {rm : Room} (As rest : List Value) {st0 : List Value} {α : Type} {FF : Option (Int32 × OM)} {K : Int32 → OM2 → Option α} {z : α} (hf : bn (on1 FF w) K = some z)
    (hM : ∀ r o1, FF = some (r, o1) → Ctm l y bytes maxL rt rm G As w.1 (some (.int r)) o1) (hR : rm.frames + 1 ≤ R.frames ∧ 8 + (maxL + 11) + rm.locals ≤ R.locals) (hcs : cells + rm.cells ≤ R.cells ∧ slots + rm.slots ≤ R.slots) (hn : As.length = n) (hst : st0 = As.reverse ++ rest) (hsz : ls.size = nL) (hw : (rest.map fun v => v.category).sum ≤ 8) (d : Dc cc pc (.invokestatic idx) 3 pc')
    (kk : ∀ r w1 H1 L1, Hp2 G w1 s H1 L1 → K r w1 = some z → W p l e R s m args below meth c H1 L1 (cells + rm.cells) (slots + rm.slots) Q (F0 m pc' ls (.int r :: rest))) : W p l e R s m args below meth c H locs cells slots Q (F0 m pc ls st0) := by
  obtain ⟨d1, rfl⟩ := d
  obtain ⟨r, w1, g1, g2⟩ := bn_s hf
  obtain ⟨o1, g3, rfl⟩ := on1_s g1
  have hb : CallB R s args own idx y bytes maxL rt (Cond.code y bytes maxL rt :: WT) rm rm.cells rm.slots n := callB_X C F hR
  have hb' := F.2.1
  rw [if_pos rfl] at hb'
  have hts := C.2.2.2.2.2.1
  exact t_run1 (va_runS (As := As) (rest := rest) ⟨C.1, C.2.1, C.2.2.1, C.2.2.2.2.1, hts⟩ (hM r o1 g3) ⟨hb, hts _ hb'⟩ (pre1_W C X P) rfl hn hsz hst (lv_room hw) d1 hcs) P (fun H1 L1 h1 => kk r _ H1 L1 h1 g2)
/-- a call of the class that is known to return -/
theorem t_cV1 (C : Cx G own cc nL ret p s m args meth c) (X : X2 G s) (P : Hp2 G w s H locs) {idx : Nat} {y : MethodName} {bytes : ByteArray} {maxL n : Nat} {rt : Option FieldType} (F : CallF false own idx y bytes maxL rt n) {rm : Room} (hy : y.cls = RX5) (As rest : List Value) {st0 : List Value} {α : Type} {FF : Option ((Nat × Int32) × OM)} {K : Int32 → OM2 → Option α} {z : α} (hf : b0 (on1 FF w) K = some z)
    (hM : ∀ q o1, FF = some (q, o1) → Cte l y bytes maxL rt rm G (.ref (rA G 0 0) :: As) w.1 q.1 (some (.int q.2)) o1) (hR : rm.frames + 1 ≤ R.frames ∧ 8 + (maxL + 11) + rm.locals ≤ R.locals) (hcs : cells ≤ R.cells ∧ slots ≤ R.slots) (hn : As.length = n) (hst : st0 = As.reverse ++ .ref (rA G 0 0) :: rest) (hsz : ls.size = nL) (hw : (rest.map fun v => v.category).sum ≤ 8) (d : Dc cc pc (.invokevirtual idx) 3 pc')
    (kk : ∀ v w1 H1 L1, Hp2 G w1 s H1 L1 → K v w1 = some z → W p l e R s m args below meth c H1 L1 cells slots Q (F0 m pc' ls (.int v :: rest))) : W p l e R s m args below meth c H locs cells slots Q (F0 m pc ls st0) := by
  obtain ⟨d1, rfl⟩ := d
  obtain ⟨q, w1, g1, g4⟩ := bn_s hf
  obtain ⟨o1, g3, rfl⟩ := on1_s g1
  obtain ⟨g5, g2⟩ := grd_s g4
  have hq : q.1 = 0 := of_decide_eq_true g5
  have hM := hM q o1 g3
  have hm0 : mcx q.1 = 0 := by rw [hq]; rfl
  have hb := callB_X (R := R) C F (rm := rmx rm q.1) hR
  have hb' := F.2.1
  rw [if_neg (by decide)] at hb'
  have hts := C.2.2.2.2.2.1
  have hv := va_recv (ci := 5) (q := (RX5, TX5, 5)) C.2.2.2.2.2.2.1 P.1 rfl (WS_at (k := 0) (i := 0) rfl)
  have hv : ∃ cell : Cell, H[rA G 0 0]? = some cell ∧ cell.vm.isStatics = false ∧ s.vm.findClass y.cls = some cell.cls := by rw [hy]; exact hv
  have hp := pre1_X C X P (As := .ref (rA G 0 0) :: As)
  have hr := vx_runV (e := e) (below := below) (meth := meth) (R := R) (H := H) (locs := locs) (cells := cells) (slots := slots) (C := y.cls) (b := rA G 0 0) (As := As) (rest := rest) (g := F0 m pc ls st0) ⟨C.1, C.2.1, C.2.2.1, C.2.2.2.2.1, hts⟩ hM ⟨hb, hts _ hb'.1, hts _ hb'.2⟩ ⟨hp.1, hv, hp.2⟩ rfl hn hsz hst (lv_room hw) d1 ⟨by rw [hm0]; exact hcs.1, by rw [hm0]; exact hcs.2⟩
  rw [hm0] at hr
  intro T hT X0
  rcases hr T hT X0 with ⟨v, st₀, t, T', L, h0, X', hL, e1, e2, ⟨hc0, hv, hP1, hz, hk⟩, st⟩ | ⟨qa, st₀, t, T', L, E, ce, h0, X', hL, e1, e2, ⟨hE, hc0, hP1, hz, hk⟩, -⟩
  · cases hv
    rw [h0] at hz hk
    obtain ⟨t2, a1, b1⟩ := kk _ _ T'.heap (locs ++ L) (hp2_1 P (by rw [e1]; exact hP1) (by rw [e1]; exact hz) (fun q h1 h2 => by rw [e1]; exact hk q h1 h2) hL) g2 T' rfl X'
    exact ⟨t2, st t2 a1, b1⟩
  · exact absurd hq hc0
theorem pre2_W (C : Cx G own cc nL ret p s m args meth c) (X : X2 G s) (P : Hp2 G w s H locs) {As : List Value} : PreS s H (va_Pc As (PreW (pG G) w.2)) As := ⟨fun a U g mk q => ⟨q.1, ⟨q.2.1.1, va_K.moved (u := U) (U := U.calling g mk a) (Vm.Alike.refl U.vm) q.2.1.2.1, q.2.1.2.2⟩, q.2.2.calling⟩, fun U hU hW => ⟨rfl, ⟨by rw [hU]; exact P.2.1, va_K.moved hW.alike C.2.2.2.2.2.2.1, by rw [hU]; exact lt_2 P⟩, (X.to P.2.2.1 hU hW).narrow fr_2⟩⟩
theorem pre2_X (C : Cx G own cc nL ret p s m args meth c) (X : X2 G s) (P : Hp2 G w s H locs) {As : List Value} : PreS s H (va_Pc As (PreX (pG G) w.2)) As := ⟨fun a U g mk q => ⟨q.1, ⟨q.2.1.1, va_K.moved (u := U) (U := U.calling g mk a) (Vm.Alike.refl U.vm) q.2.1.2.1, q.2.1.2.2⟩, q.2.2.calling⟩, fun U hU hW => ⟨rfl, ⟨by rw [hU]; exact P.2.1, va_K.moved hW.alike C.2.2.2.2.2.2.1, by rw [hU]; exact lt_2 P⟩, ((X.to P.2.2.1 hU hW).narrow fr_2).1⟩⟩
theorem hp2_2 (P : Hp2 G w s H locs) {o1 : OM} {H1 : Heap} {L : List Loc} (h1 : va_P (gD G) vwCl (WS (pG G) o1) H1) (hz : H.size ≤ H1.size) (hk : ∀ q : Nat, q < H.size → ¬ fr (pG G) q → H1[q]? = H[q]?) (hL : ∀ q ∈ L, fr (pG G) q.base) : Hp2 G (sy o1 w.1, o1) s H1 (locs ++ L) := ⟨two_2 P.2.2.2 P.1 h1 hk, h1, hp2_S P fr_2 hz hk hL, P.2.2.2⟩
theorem t_run2 {rv : Option Value} {o1 : OM} {a : Array Value} {st0 : List Value} {mc ms : Nat} (hr : va_Run p l e R s m args below meth c H locs cells slots mc ms (F0 m pc ls st0) rest (QcG (pG G) rv o1 a) (fr (pG G))) (P : Hp2 G w s H locs) (kk : ∀ H1 L1, Hp2 G (sy o1 w.1, o1) s H1 L1 → W p l e R s m args below meth c H1 L1 (cells + mc) (slots + ms) Q (F0 m (pc + 3) ls (rv.toList ++ rest))) : W p l e R s m args below meth c H locs cells slots Q (F0 m pc ls st0) := by
  intro T hT X
  obtain ⟨v, st₀, t, T', L, h0, X', hL, e1, e2, ⟨hv, hP1, hz, hk⟩, st⟩ := hr T hT X
  cases hv
  rw [h0] at hz hk
  obtain ⟨t2, a1, b1⟩ := kk T'.heap (locs ++ L) (hp2_2 P (by rw [e1]; exact hP1) (by rw [e1]; exact hz) (fun q h1 h2 => by rw [e1]; exact hk q h1 h2) hL) T' rfl X'
  exact ⟨t2, st t2 a1, b1⟩
/-- the law's own methods of one object -/
theorem t_cS2 (C : Cx G own cc nL ret p s m args meth c) (X : X2 G s) (P : Hp2 G w s H locs) {idx : Nat} {y : MethodName} {bytes : ByteArray} {maxL n : Nat} {rt : Option FieldType} (F : CallF true own idx y bytes maxL rt n) {rm : Room} (As rest : List Value) {st0 : List Value} {α : Type} {FF : Option (Int32 × OM)} {K : Int32 → OM2 → Option α} {z : α} (hf : bn (on2 FF w) K = some z)
    (hM : ∀ r o1, FF = some (r, o1) → Ctm l y bytes maxL rt rm (pG G) As w.2 (some (.int r)) o1) (hR : rm.frames + 1 ≤ R.frames ∧ 8 + (maxL + 11) + rm.locals ≤ R.locals) (hcs : cells + rm.cells ≤ R.cells ∧ slots + rm.slots ≤ R.slots) (hn : As.length = n) (hst : st0 = As.reverse ++ rest) (hsz : ls.size = nL) (hw : (rest.map fun v => v.category).sum ≤ 8) (d : Dc cc pc (.invokestatic idx) 3 pc')
    (kk : ∀ r w1 H1 L1, Hp2 G w1 s H1 L1 → K r w1 = some z → W p l e R s m args below meth c H1 L1 (cells + rm.cells) (slots + rm.slots) Q (F0 m pc' ls (.int r :: rest))) : W p l e R s m args below meth c H locs cells slots Q (F0 m pc ls st0) := by
  obtain ⟨d1, rfl⟩ := d
  obtain ⟨r, w1, g1, g2⟩ := bn_s hf
  obtain ⟨o1, g3, rfl⟩ := on2_s g1
  have hb : CallB R s args own idx y bytes maxL rt (Cond.code y bytes maxL rt :: WT) rm rm.cells rm.slots n := callB_X C F hR
  have hb' := F.2.1
  rw [if_pos rfl] at hb'
  have hts := C.2.2.2.2.2.1
  exact t_run2 (va_runS (As := As) (rest := rest) ⟨C.1, C.2.1, C.2.2.1, C.2.2.2.2.1, hts⟩ (hM r o1 g3) ⟨hb, hts _ hb'⟩ (pre2_W C X P) rfl hn hsz hst (lv_room hw) d1 hcs) P (fun H1 L1 h1 => kk r _ H1 L1 h1 g2)
/-- a call of the class that is known to return -/
theorem t_cV2 (C : Cx G own cc nL ret p s m args meth c) (X : X2 G s) (P : Hp2 G w s H locs) {idx : Nat} {y : MethodName} {bytes : ByteArray} {maxL n : Nat} {rt : Option FieldType} (F : CallF false own idx y bytes maxL rt n) {rm : Room} (hy : y.cls = RX5) (As rest : List Value) {st0 : List Value} {α : Type} {FF : Option ((Nat × Int32) × OM)} {K : Int32 → OM2 → Option α} {z : α} (hf : b0 (on2 FF w) K = some z)
    (hM : ∀ q o1, FF = some (q, o1) → Cte l y bytes maxL rt rm (pG G) (.ref (rA (pG G) 0 0) :: As) w.2 q.1 (some (.int q.2)) o1) (hR : rm.frames + 1 ≤ R.frames ∧ 8 + (maxL + 11) + rm.locals ≤ R.locals) (hcs : cells ≤ R.cells ∧ slots ≤ R.slots) (hn : As.length = n) (hst : st0 = As.reverse ++ .ref (rA (pG G) 0 0) :: rest) (hsz : ls.size = nL) (hw : (rest.map fun v => v.category).sum ≤ 8) (d : Dc cc pc (.invokevirtual idx) 3 pc')
    (kk : ∀ v w1 H1 L1, Hp2 G w1 s H1 L1 → K v w1 = some z → W p l e R s m args below meth c H1 L1 cells slots Q (F0 m pc' ls (.int v :: rest))) : W p l e R s m args below meth c H locs cells slots Q (F0 m pc ls st0) := by
  obtain ⟨d1, rfl⟩ := d
  obtain ⟨q, w1, g1, g4⟩ := bn_s hf
  obtain ⟨o1, g3, rfl⟩ := on2_s g1
  obtain ⟨g5, g2⟩ := grd_s g4
  have hq : q.1 = 0 := of_decide_eq_true g5
  have hM := hM q o1 g3
  have hm0 : mcx q.1 = 0 := by rw [hq]; rfl
  have hb := callB_X (R := R) C F (rm := rmx rm q.1) hR
  have hb' := F.2.1
  rw [if_neg (by decide)] at hb'
  have hts := C.2.2.2.2.2.1
  have hv := va_recv (ci := 5) (q := (RX5, TX5, 5)) C.2.2.2.2.2.2.1 P.2.1 rfl (WS_at (k := 0) (i := 0) rfl)
  have hv : ∃ cell : Cell, H[rA (pG G) 0 0]? = some cell ∧ cell.vm.isStatics = false ∧ s.vm.findClass y.cls = some cell.cls := by rw [hy]; exact hv
  have hp := pre2_X C X P (As := .ref (rA (pG G) 0 0) :: As)
  have hr := vx_runV (e := e) (below := below) (meth := meth) (R := R) (H := H) (locs := locs) (cells := cells) (slots := slots) (C := y.cls) (b := rA (pG G) 0 0) (As := As) (rest := rest) (g := F0 m pc ls st0) ⟨C.1, C.2.1, C.2.2.1, C.2.2.2.2.1, hts⟩ hM ⟨hb, hts _ hb'.1, hts _ hb'.2⟩ ⟨hp.1, hv, hp.2⟩ rfl hn hsz hst (lv_room hw) d1 ⟨by rw [hm0]; exact hcs.1, by rw [hm0]; exact hcs.2⟩
  rw [hm0] at hr
  intro T hT X0
  rcases hr T hT X0 with ⟨v, st₀, t, T', L, h0, X', hL, e1, e2, ⟨hc0, hv, hP1, hz, hk⟩, st⟩ | ⟨qa, st₀, t, T', L, E, ce, h0, X', hL, e1, e2, ⟨hE, hc0, hP1, hz, hk⟩, -⟩
  · cases hv
    rw [h0] at hz hk
    obtain ⟨t2, a1, b1⟩ := kk _ _ T'.heap (locs ++ L) (hp2_2 P (by rw [e1]; exact hP1) (by rw [e1]; exact hz) (fun q h1 h2 => by rw [e1]; exact hk q h1 h2) hL) g2 T' rfl X'
    exact ⟨t2, st t2 a1, b1⟩
  · exact absurd hq hc0
theorem hp2_0 (P : Hp2 G w s H locs) {H1 : Heap} {L : List Loc} (h1 : va_P (gD G) vwCl (WS G w.1) H1) (hz : H.size ≤ H1.size) (hk : ∀ q : Nat, q < H.size → ¬ fr G q → H1[q]? = H[q]?) (hL : ∀ q ∈ L, fr G q.base) : Hp2 G w s H1 (locs ++ L) := by
  refine ⟨h1, fun k q hq => ?_, hp2_S P fr_1 hz hk hL, P.2.2.2⟩
  have e0 := P.2.1 k q hq
  refine e0.kept ?_
  by_cases hn : k < 471
  · rw [WS_get hn] at hq
    cases hq
    have hl := e0.lt
    by_cases h : k = 470
    · subst h
      have e1 := h1 470 _ (WS_get (by omega))
      have e2 := P.1 470 _ (WS_get (by omega))
      rw [cel_out] at e1 e2
      rw [adW_470, P.2.2.2] at e1 e2
      show H1[adW (pG G) 470]? = H[adW (pG G) 470]?
      rw [adW_470]
      exact Eq.trans e1 (Eq.symm e2)
    · have e5 := P.2.2.2
      dsimp only at hl ⊢
      rw [adW_lt (by omega)] at hl ⊢
      refine hk _ hl ?_
      have e3 : (pG G).1 = G.1 + 470 := rfl
      have e4 : aN (pG G) = 0 := rfl
      show ¬ ((_ ∧ _) ∨ _)
      omega
  · rw [WS_out hn] at hq
    cases hq
/-- a small method that changes nothing -/
theorem t_run0 {rv : Option Value} {a : Array Value} {st0 : List Value} (hr : va_Run p l e R s m args below meth c H locs cells slots 0 0 (F0 m pc ls st0) rest (QcG G rv w.1 a) (fr G)) (P : Hp2 G w s H locs) (kk : ∀ H1 L1, Hp2 G w s H1 L1 → W p l e R s m args below meth c H1 L1 cells slots Q (F0 m (pc + 3) ls (rv.toList ++ rest))) : W p l e R s m args below meth c H locs cells slots Q (F0 m pc ls st0) := by
  intro T hT X
  obtain ⟨v, st₀, t, T', L, h0, X', hL, e1, e2, ⟨hv, hP1, hz, hk⟩, st⟩ := hr T hT X
  cases hv
  rw [h0] at hz hk
  obtain ⟨t2, a1, b1⟩ := kk T'.heap (locs ++ L) (hp2_0 P (by rw [e1]; exact hP1) (by rw [e1]; exact hz) (fun q h1 h2 => by rw [e1]; exact hk q h1 h2) hL) T' rfl X'
  exact ⟨t2, st t2 a1, b1⟩
theorem t_qS (C : Cx G own cc nL ret p s m args meth c) (X : X2 G s) (P : Hp2 G w s H locs) {idx : Nat} {y : MethodName} {bytes : ByteArray} {maxL n : Nat} {rt : Option FieldType} (F : CallF true own idx y bytes maxL rt n) {rm : Room} (As rest : List Value) {st0 : List Value} {α : Type} {FF : Option Int32} {K : Int32 → Option α} {z : α} (hf : bq FF K = some z)
    (hM : ∀ r, FF = some r → Ct l y bytes maxL rt rm G As w.1 (some (.int r)) w.1) (hz : rm.cells = 0 ∧ rm.slots = 0) (hR : rm.frames + 1 ≤ R.frames ∧ 8 + (maxL + 11) + rm.locals ≤ R.locals) (hcs : cells ≤ R.cells ∧ slots ≤ R.slots) (hn : As.length = n) (hst : st0 = As.reverse ++ rest) (hsz : ls.size = nL) (hw : (rest.map fun v => v.category).sum ≤ 8) (d : Dc cc pc (.invokestatic idx) 3 pc')
    (kk : ∀ r H1 L1, Hp2 G w s H1 L1 → K r = some z → W p l e R s m args below meth c H1 L1 cells slots Q (F0 m pc' ls (.int r :: rest))) : W p l e R s m args below meth c H locs cells slots Q (F0 m pc ls st0) := by
  obtain ⟨d1, rfl⟩ := d
  obtain ⟨r, g1, g2⟩ := bq_s hf
  have hb := callB_F C F hz hR
  have hb' := F.2.1
  rw [if_pos rfl] at hb'
  have hts := C.2.2.2.2.2.1
  have hp : PreS s H (va_Pc As (PreG G w.1)) As := ⟨fun a U g mk q => ⟨q.1, q.2.1, va_K.moved (u := U) (U := U.calling g mk a) (Vm.Alike.refl U.vm) q.2.2.1, q.2.2.2⟩, fun U hU hW => ⟨rfl, by rw [hU]; exact P.1, va_K.moved hW.alike C.2.2.2.2.2.2.1, by rw [hU]; exact Nat.le_trans C.2.2.2.2.2.2.2.2 P.2.2.1.1⟩⟩
  have hM' := hM r g1
  unfold Ct at hM'
  rw [hz.1, hz.2] at hM'
  exact t_run0 (va_runS (As := As) (rest := rest) ⟨C.1, C.2.1, C.2.2.1, C.2.2.2.2.1, hts⟩ hM' ⟨hb, hts _ hb'⟩ hp rfl hn hsz hst (lv_room hw) d1 hcs) P (fun H1 L1 h1 => kk r H1 L1 h1 g2)
theorem t_iald (C : Cx G own cc nL ret p s m args meth c) (P : Hp2 G w s H locs) (d : Dc cc pc .iaload 1 pc')
    (kk : W p l e R s m args below meth c H locs cells slots Q (F0 m pc' ls (.int (rd w.1 24 0 0) :: rest))) : W p l e R s m args below meth c H locs cells slots Q (F0 m pc ls (.int 0 :: .ref (rA G 24 0) :: rest)) := by
  obtain ⟨d1, rfl⟩ := d
  have ha : (WS G w.1)[adr 24 0]? = some (rA G 24 0, .inl (aI G, 1, .inl (w.1.1 24 0))) := WS_at rfl
  have z : (0 : Int32).toNatClampNeg = 0 := by decide
  have h := va_iald (p := p) (l := l) (e := e) (R := R) (s := s) (m := m) (args := args) (below := below) (meth := meth) (c := c) (H := H) (locs := locs) (cells := cells) (slots := slots) (Q := Q) (ls := ls) (rest := rest) (pc := pc) (i := 0) C.1 C.2.1 C.2.2.2.2.2.2.1 P.1 (adr 24 0) 0 ha rfl (inB_in (by decide)) d1
  rw [z] at h
  exact h kk
/-- what a method of both objects ends with -/
def Qc2 (G : Gd) (rv : Option Value) (w' : OM2) : Array Value → State → Outcome → State → Prop := fun _ st oc t => oc = .returned rv ∧ va_P (gD G) vwCl (WS G w'.1) t.heap ∧ va_P (gD G) vwCl (WS (pG G) w'.2) t.heap ∧ va_F (frN G) st t
abbrev Qm2 (G : Gd) (rv : Option Value) (w' : OM2) (rm : Room) (below : List Frame) (args : Array Value) (s : State) : State → Prop := MQ below (Qc2 G rv w') args s rm.cells rm.slots (frN G)
def Pre2 (G : Gd) (w : OM2) (U : State) : Prop := va_P (gD G) vwCl (WS G w.1) U.heap ∧ va_P (gD G) vwCl (WS (pG G) w.2) U.heap ∧ va_K (gD G) vwCl (gT G) U ∧ G.1 ≤ U.heap.size ∧ aN G = 470 ∧ X2 G U
abbrev Ct2 (l : Launch) (y : MethodName) (cc : ByteArray) (maxL : Nat) (ret : Option FieldType) (rm : Room) (G : Gd) (As : List Value) (w : OM2) (rv : Option Value) (w' : OM2) : Prop :=
  Met l y (Cond.code y cc maxL ret :: WT) rm (va_Pc As (Pre2 G w)) (Qc2 G rv w') rm.cells rm.slots (frN G)
theorem ct2_of {l : Launch} {y : MethodName} {cc : ByteArray} {maxL : Nat} {ret : Option FieldType} {rm : Room} {G : Gd} {As : List Value} {w : OM2} {rv : Option Value} {w' : OM2} (hy : plainFor y = true) (hl : (lg_sl As).length ≤ maxL)
    (body : ∀ p e s m below meth c ls, Cx G y.cls cc maxL ret p s m As.toArray meth c → X2 G s → Hp2 G w s s.heap [] → lv_has ls maxL (lv_args 0 As) →
      W p l e rm s m As.toArray below meth c s.heap [] 0 0 (Qm2 G rv w' rm below As.toArray s) (F0 m 0 ls [])) : Ct2 l y cc maxL ret rm G As w rv w' := by
  refine ofWF (cc := cc) (maxL := maxL) (ret := ret) hy rfl ?_
  intro p e s m args below meth c s₁ B hml hv
  obtain ⟨rfl, hP, hP2, hK, hz, hN, hX⟩ := hv
  have hts := atoms_spec (ws := Cond.code y cc maxL ret :: WT) B.pre
  have hC : Cx G y.cls cc maxL ret p s m As.toArray meth c := ⟨B.exec, B.bytes, hml, B.returns, findClass_of_methodNamed B.named, fun w hw => hts w (List.mem_cons_of_mem _ hw), hK, B.notSynchronized, hz⟩
  have h := body p e s m below meth c _ hC hX ⟨hP, hP2, va_S.rf, hN⟩ (lv_entry As (n := maxL) hl)
  rw [lg_entry_eq]
  exact h
theorem t_zret (C : Cx G own cc nL (some .boolean) p s m args meth c) (P : Hp2 G w s H locs) {rm : Room} (hz : cells = rm.cells ∧ slots = rm.slots) {x r : Int32} {w1 : OM2} (d : Dc cc pc .ireturn 1 pc') (hf : grd (isZ x) (some (x, w)) = some (r, w1)) : W p l e R s m args below meth c H locs cells slots (Qm2 G (some (.int r)) w1 rm below args s) (F0 m pc ls [.int x]) := by
  obtain ⟨d1, rfl⟩ := d
  obtain ⟨h1, h2⟩ := hz
  obtain ⟨g1, g2⟩ := grd_s hf
  cases g2
  have hlocks : meth.locks = false := C.2.2.2.2.2.2.2.1
  have hn : narrow .boolean (.int x) = .int x := by
    unfold isZ at g1
    rcases Bool.or_eq_true _ _ ▸ g1 with h | h <;> (rw [of_decide_eq_true h]; rfl)
  rw [h1, h2]
  exact W.zret C.1 C.2.1 C.2.2.2.1 hn (fun t ht _ => ⟨rfl, by rw [ht]; exact P.1, by rw [ht]; exact P.2.1, P.2.2.1.F ht⟩) P.2.2.1.2.2 d1
theorem t_c2 (C : Cx G own cc nL ret p s m args meth c) (X : X2 G s) (P : Hp2 G w s H locs) {idx : Nat} {y : MethodName} {bytes : ByteArray} {maxL n : Nat} {rt : Option FieldType} (F : CallF true own idx y bytes maxL rt n) {rm : Room} (As rest : List Value) {st0 : List Value} {α : Type} {FF : Option (Int32 × OM2)} {K : Int32 → OM2 → Option α} {z : α} (hf : bn FF K = some z)
    (hM : ∀ r w1, FF = some (r, w1) → Ct2 l y bytes maxL rt rm G As w (some (.int r)) w1) (hR : rm.frames + 1 ≤ R.frames ∧ 8 + (maxL + 11) + rm.locals ≤ R.locals) (hcs : cells + rm.cells ≤ R.cells ∧ slots + rm.slots ≤ R.slots) (hn : As.length = n) (hst : st0 = As.reverse ++ rest) (hsz : ls.size = nL) (hw : (rest.map fun v => v.category).sum ≤ 8) (d : Dc cc pc (.invokestatic idx) 3 pc')
    (kk : ∀ r w1 H1 L1, Hp2 G w1 s H1 L1 → K r w1 = some z → W p l e R s m args below meth c H1 L1 (cells + rm.cells) (slots + rm.slots) Q (F0 m pc' ls (.int r :: rest))) : W p l e R s m args below meth c H locs cells slots Q (F0 m pc ls st0) := by
  obtain ⟨d1, rfl⟩ := d
  obtain ⟨r, w1, g1, g2⟩ := bn_s hf
  have hb : CallB R s args own idx y bytes maxL rt (Cond.code y bytes maxL rt :: WT) rm rm.cells rm.slots n := callB_X C F hR
  have hb' := F.2.1
  rw [if_pos rfl] at hb'
  have hts := C.2.2.2.2.2.1
  have hp : PreS s H (va_Pc As (Pre2 G w)) As := ⟨fun a U g mk q => ⟨q.1, q.2.1, q.2.2.1, va_K.moved (u := U) (U := U.calling g mk a) (Vm.Alike.refl U.vm) q.2.2.2.1, q.2.2.2.2.1, q.2.2.2.2.2.1, q.2.2.2.2.2.2.calling⟩, fun U hU hW => ⟨rfl, by rw [hU]; exact P.1, by rw [hU]; exact P.2.1, va_K.moved hW.alike C.2.2.2.2.2.2.1, by rw [hU]; exact Nat.le_trans C.2.2.2.2.2.2.2.2 P.2.2.1.1, P.2.2.2, X.to P.2.2.1 hU hW⟩⟩
  intro T hT X0
  obtain ⟨v, st₀, t, T', L, h0, X', hL, e1, e2, ⟨hv, hP1, hP2, hz, hk⟩, st⟩ := va_runS (e := e) (below := below) (meth := meth) (R := R) (H := H) (locs := locs) (cells := cells) (slots := slots) (As := As) (rest := rest) (g := F0 m pc ls st0) ⟨C.1, C.2.1, C.2.2.1, C.2.2.2.2.1, hts⟩ (hM r w1 g1) ⟨hb, hts _ hb'⟩ hp rfl hn hsz hst (lv_room hw) d1 hcs T hT X0
  cases hv
  rw [h0] at hz hk
  obtain ⟨t2, a1, b1⟩ := kk r w1 T'.heap (locs ++ L) ⟨by rw [e1]; exact hP1, by rw [e1]; exact hP2, hp2_S P (fun _ h => h) (by rw [e1]; exact hz) (fun q h1 h2 => by rw [e1]; exact hk q h1 h2) hL, P.2.2.2⟩ g2 T' rfl X'
  exact ⟨t2, st t2 a1, b1⟩
end TW
theorem dL_cell_0 : Dc cL_cell 0 (.iload_n 1) 1 1 := ⟨by decide +kernel, rfl⟩
theorem dL_cell_1 : Dc cL_cell 1 (.aload_n 0) 1 2 := ⟨by decide +kernel, rfl⟩
theorem dL_cell_2 : Dc cL_cell 2 (.arraylength) 1 3 := ⟨by decide +kernel, rfl⟩
theorem dL_cell_3 : Dj cL_cell 3 (.if_icmp .ge 9) 3 6 (9) 12 := ⟨by decide +kernel, rfl, by decide⟩
theorem dL_cell_6 : Dc cL_cell 6 (.aload_n 0) 1 7 := ⟨by decide +kernel, rfl⟩
theorem dL_cell_7 : Dc cL_cell 7 (.iload_n 1) 1 8 := ⟨by decide +kernel, rfl⟩
theorem dL_cell_8 : Dc cL_cell 8 (.iaload) 1 9 := ⟨by decide +kernel, rfl⟩
theorem dL_cell_9 : Dj cL_cell 9 (.goto 17) 3 12 (17) 26 := ⟨by decide +kernel, rfl, by decide⟩
theorem dL_cell_12 : Dc cL_cell 12 (.sipush 7919) 3 15 := ⟨by decide +kernel, rfl⟩
theorem dL_cell_15 : Dc cL_cell 15 (.iload_n 1) 1 16 := ⟨by decide +kernel, rfl⟩
theorem dL_cell_16 : Dc cL_cell 16 (.bipush 7) 2 18 := ⟨by decide +kernel, rfl⟩
theorem dL_cell_18 : Dc cL_cell 18 (.iadd) 1 19 := ⟨by decide +kernel, rfl⟩
theorem dL_cell_19 : Dc cL_cell 19 (.imul) 1 20 := ⟨by decide +kernel, rfl⟩
theorem dL_cell_20 : Dc cL_cell 20 (.iload_n 1) 1 21 := ⟨by decide +kernel, rfl⟩
theorem dL_cell_21 : Dc cL_cell 21 (.sipush 457) 3 24 := ⟨by decide +kernel, rfl⟩
theorem dL_cell_24 : Dc cL_cell 24 (.iadd) 1 25 := ⟨by decide +kernel, rfl⟩
theorem dL_cell_25 : Dc cL_cell 25 (.imul) 1 26 := ⟨by decide +kernel, rfl⟩
theorem dL_cell_26 : Dc cL_cell 26 (.ireturn) 1 27 := ⟨by decide +kernel, rfl⟩
/-- the script -/
def F_L_cell (xs : Nat → Int32) (L : Nat) (v1 : Int32) : Option Int32 := if Int32.ofNat L ≤ v1 then (some (7919 * (v1 + 7) * (v1 + 457))) else (grd (inB v1 L) (some (xs v1.toNatClampNeg)))
abbrev rmL_cell : Room := { frames := 0, cells := 0, slots := 0, locals := 0 }
def PreC (G : Gd) (o : OM) (b L : Nat) (xs : Nat → Int32) (U : State) : Prop := PreG G o U ∧ va_X b L xs U U.heap ∧ b < U.heap.size ∧ ¬ fr G b
set_option maxHeartbeats 4000000 in
theorem ctL_cell (l : Launch) (G : Gd) (o : OM) (b L : Nat) (xs : Nat → Int32) (v1 : Int32) {r : Int32} (hf : F_L_cell xs L v1 = some r) : Met l yL_cell (Cond.code yL_cell cL_cell 2 (some .int) :: WT) rmL_cell (va_Pc [.ref b, .int v1] (PreC G o b L xs)) (QcG G (some (.int r)) o) rmL_cell.cells rmL_cell.slots (fr G) := by
  refine ofWF (cc := cL_cell) (maxL := 2) (ret := some .int) (by decide +kernel) rfl ?_
  intro p e s m args below meth c s₁ B hml hv
  obtain ⟨rfl, ⟨hP, hK, hz⟩, hX, hbl, hbA⟩ := hv
  have hts := atoms_spec (ws := Cond.code yL_cell cL_cell 2 (some .int) :: WT) B.pre
  have C : Cx G RL cL_cell 2 (some .int) p s m ([.ref b, .int v1] : List Value).toArray meth c := ⟨B.exec, B.bytes, hml, B.returns, findClass_of_methodNamed B.named, fun w hw => hts w (List.mem_cons_of_mem _ hw), hK, B.notSynchronized, hz⟩
  have hl := lv_entry ([.ref b, .int v1]) (n := 2) (Nat.le_of_ble_eq_true rfl)
  rw [lg_entry_eq]
  generalize (lg_sl ([.ref b, .int v1]) ++ List.replicate (2 - (lg_sl ([.ref b, .int v1])).length) Slot.unset).toArray = ls at hl ⊢
  have hl : lv_has ls 2 [(0, .ref b), (1, .int v1)] := hl
  have P : Hp G o s s.heap [] := ⟨hP, va_S.rf⟩
  unfold F_L_cell at hf
  refine r_iload_n C hl 1 rfl rfl dL_cell_0 ?_
  refine r_aload_n C hl 0 rfl rfl dL_cell_1 ?_
  refine va_slen C.1 C.2.1 hX hbl hbA P.2 dL_cell_2.1 ?_
  refine r_icmp_ge C dL_cell_3 hf (fun hf => ?_) (fun hf => ?_)
  · have hf := Option.some.inj hf
    subst hf
    refine r_sipush C (v := 7919) (by decide) dL_cell_12 ?_
    refine r_iload_n C hl 1 rfl rfl dL_cell_15 ?_
    refine r_bipush C (v := 7) (by decide) dL_cell_16 ?_
    refine r_iadd2 C dL_cell_18 ?_
    refine r_imul C dL_cell_19 ?_
    refine r_iload_n C hl 1 rfl rfl dL_cell_20 ?_
    refine r_sipush C (v := 457) (by decide) dL_cell_21 ?_
    refine r_iadd2 C dL_cell_24 ?_
    refine r_imul C dL_cell_25 ?_
    exact r_iret C P (rm := rmL_cell) ⟨rfl, rfl⟩ dL_cell_26 rfl
  · obtain ⟨g1, g2⟩ := grd_s hf
    cases g2
    refine r_aload_n C hl 0 rfl rfl dL_cell_6 ?_
    refine r_iload_n C hl 1 rfl rfl dL_cell_7 ?_
    refine va_sld C.1 C.2.1 hX hbl hbA P.2 (inB_in g1) dL_cell_8.1 ?_
    refine r_goto C dL_cell_9 ?_
    exact r_iret C P (rm := rmL_cell) ⟨rfl, rfl⟩ dL_cell_26 rfl
section TC
variable {G : Gd} {own : String} {cc : ByteArray} {nL : Nat} {ret : Option FieldType} {p : Program} {l : Launch} {e : Env} {R : Room} {s : State} {m : MethodId} {args : Array Value} {below : List Frame} {meth : Method} {c : Code} {H : Heap} {locs : List Loc} {cells slots : Nat} {Q : State → Prop} {w : OM2}
variable {pc pc' : Nat} {ls : Array Slot} {rest : List Value}
theorem t_cell (C : Cx G own cc nL ret p s m args meth c) {b L : Nat} {xs : Nat → Int32} (hX : va_X b L xs s s.heap) (hbl : b < s.heap.size) (hbA : ¬ frN G b) (P : Hp2 G w s H locs) {idx : Nat} (F : CallF true own idx yL_cell cL_cell 2 (some .int) 2) (rest : List Value) {v1 : Int32} {α : Type} {K : Int32 → Option α} {z : α} (hf : bq (F_L_cell xs L v1) K = some z)
    (hR : rmL_cell.frames + 1 ≤ R.frames ∧ 8 + (2 + 11) + rmL_cell.locals ≤ R.locals) (hcs : cells ≤ R.cells ∧ slots ≤ R.slots) (hsz : ls.size = nL) (hw : (rest.map fun v => v.category).sum ≤ 8) (d : Dc cc pc (.invokestatic idx) 3 pc')
    (kk : ∀ r H1 L1, Hp2 G w s H1 L1 → K r = some z → W p l e R s m args below meth c H1 L1 cells slots Q (F0 m pc' ls (.int r :: rest))) : W p l e R s m args below meth c H locs cells slots Q (F0 m pc ls (.int v1 :: .ref b :: rest)) := by
  obtain ⟨d1, rfl⟩ := d
  obtain ⟨r, g1, g2⟩ := bq_s hf
  have hb := callB_F (rm := rmL_cell) C F ⟨rfl, rfl⟩ hR
  have hb' := F.2.1
  rw [if_pos rfl] at hb'
  have hts := C.2.2.2.2.2.1
  have hp : PreS s H (va_Pc [.ref b, .int v1] (PreC G w.1 b L xs)) [.ref b, .int v1] := ⟨fun a U g mk q => ⟨q.1, ⟨q.2.1.1, va_K.moved (u := U) (U := U.calling g mk a) (Vm.Alike.refl U.vm) q.2.1.2.1, q.2.1.2.2⟩, q.2.2.1.moved (U := U.calling g mk a) (Vm.Alike.refl U.vm), q.2.2.2⟩, fun U hU hW => ⟨rfl, ⟨by rw [hU]; exact P.1, va_K.moved hW.alike C.2.2.2.2.2.2.1, by rw [hU]; exact Nat.le_trans C.2.2.2.2.2.2.2.2 P.2.2.1.1⟩, by rw [hU]; exact (hX.kept (P.2.2.1.2.1 b hbl hbA)).moved hW.alike, by rw [hU]; exact Nat.lt_of_lt_of_le hbl P.2.2.1.1, fun z => hbA (fr_1 _ z)⟩⟩
  exact t_run0 (va_runS (As := [.ref b, .int v1]) (rest := rest) ⟨C.1, C.2.1, C.2.2.1, C.2.2.2.2.1, hts⟩ (ctL_cell l G w.1 b L xs v1 g1) ⟨hb, hts _ hb'⟩ hp rfl rfl hsz rfl (lv_room hw) d1 hcs) P (fun H1 L1 h1 => kk r H1 L1 h1 g2)
end TC
