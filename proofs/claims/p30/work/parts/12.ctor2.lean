section NC
variable {G : Gd} {own : String} {cc : ByteArray} {nL : Nat} {ret : Option FieldType} {p : Program} {l : Launch} {e : Env} {R : Room} {s : State} {m : MethodId} {args : Array Value} {below : List Frame} {meth : Method} {c : Code} {H : Heap} {locs : List Loc} {cells slots : Nat} {Q : State → Prop} {f : Nat → va_E} {n : Nat}
variable {pc pc' : Nat} {ls : Array Slot} {rest : List Value}
theorem n_vret (C : Cx G own cc nL none p s m args meth c) (P : Hn G f n s H locs) {rm : Room} (hz : cells = rm.cells ∧ slots = rm.slots) (d : Dc cc pc .return_ 1 pc') : W p l e R s m args below meth c H locs cells slots (Qn G f n rm below args s) (F0 m pc ls []) := by
  obtain ⟨d1, rfl⟩ := d
  obtain ⟨h1, h2⟩ := hz
  have hlocks : meth.locks = false := C.2.2.2.2.2.2.2.1
  rw [h1, h2]
  exact W.vret C.1 C.2.1 C.2.2.2.1 (fun t ht _ => ⟨rfl, by rw [ht]; exact P.1, by rw [ht]; exact P.2.1, P.2.2.F ht⟩) P.2.2.2.2 d1
theorem preN_S (C : Cx G own cc nL ret p s m args meth c) (X : XN G s) (P : Hn G f n s H locs) {As : List Value} : PreS s H (va_Pc As (PreN G f n)) As := ⟨fun a U g mk q => ⟨q.1, q.2.1, va_K.moved (u := U) (U := U.calling g mk a) (Vm.Alike.refl U.vm) q.2.2.1, q.2.2.2.1, q.2.2.2.2.calling⟩, fun U hU hW => ⟨rfl, by rw [hU]; exact P.1, va_K.moved hW.alike C.2.2.2.2.2.2.1, by rw [hU]; exact P.2.1, X.to P.2.2 hU hW⟩⟩
theorem n_callN {f' : Nat → va_E} {n' mc ms : Nat} {a : Array Value} {st0 : List Value} (hr : va_Run p l e R s m args below meth c H locs cells slots mc ms (F0 m pc ls st0) rest (QcN G f' n' a) (frN G)) (P : Hn G f n s H locs) (kk : ∀ H1 L1, Hn G f' n' s H1 L1 → W p l e R s m args below meth c H1 L1 (cells + mc) (slots + ms) Q (F0 m (pc + 3) ls rest)) : W p l e R s m args below meth c H locs cells slots Q (F0 m pc ls st0) := by
  intro T hT X
  obtain ⟨v, st₀, t, T', L, h0, X', hL, e1, e2, ⟨hv, hP1, hz1, hz, hk⟩, st⟩ := hr T hT X
  cases hv
  rw [h0] at hz hk
  have hS : va_S (frN G) s.heap T'.heap (locs ++ L) := ⟨Nat.le_trans P.2.2.1 (by rw [e1]; exact hz), fun q h1 h2 => by rw [e1, hk q (Nat.lt_of_lt_of_le h1 P.2.2.1) h2]; exact P.2.2.2.1 q h1 h2, fun q hq => by
    rcases List.mem_append.mp hq with h | h
    · exact P.2.2.2.2 q h
    · exact hL q h⟩
  obtain ⟨t2, a1, b1⟩ := kk T'.heap (locs ++ L) ⟨by rw [e1]; exact hP1, by rw [e1]; exact hz1, hS⟩ T' rfl X'
  exact ⟨t2, st t2 a1, b1⟩
theorem n_ctor (C : Cx G own cc nL ret p s m args meth c) (X : XN G s) (P : Hn G f n s H locs) {y : MethodName} {bytes : ByteArray} {maxL idx a n' : Nat} {rm : Room} {f' : Nat → va_E} (w1 : Cond.methodLink own idx y ∈ WT) (w2 : Cond.instanceMethod y ∈ WT) (w3 : Cond.initialized y.cls ∈ WT) (w4 : Cond.code y bytes maxL none ∈ WT) (hy : y.name = "<init>") (hd : y.cls ≠ "java/lang/invoke/MethodHandle" ∧ y.cls ≠ "java/lang/invoke/VarHandle" ∧ (parseMethodDescriptor y.desc).map (fun d => d.parameters.length) = some 0) (hM : CtN l y bytes maxL rm G [.ref (G.1 + a)] f n f' n') (hR : rm.frames + 1 ≤ R.frames ∧ 8 + (maxL + 11) + rm.locals ≤ R.locals) (hcs : cells + rm.cells ≤ R.cells ∧ slots + rm.slots ≤ R.slots) (hsz : ls.size = nL) (hw : (rest.map fun v => v.category).sum ≤ 8) (d : Dc cc pc (.invokespecial idx) 3 pc')
    (kk : ∀ H1 L1, Hn G f' n' s H1 L1 → W p l e R s m args below meth c H1 L1 (cells + rm.cells) (slots + rm.slots) Q (F0 m pc' ls rest)) : W p l e R s m args below meth c H locs cells slots Q (F0 m pc ls (.ref (G.1 + a) :: rest)) := by
  obtain ⟨d1, rfl⟩ := d
  have hts := C.2.2.2.2.2.1
  have hG : GoodIn WT (Cond.code y bytes maxL none :: WT) := fun w hw => by
    have h : w ∈ WT := (List.mem_cons.mp hw).elim (fun h => by rw [h]; exact w4) id
    exact ⟨h, wt_good w h⟩
  exact n_callN (va_runI (As := []) (rest := rest) ⟨C.1, C.2.1, C.2.2.1, C.2.2.2.2.1, hts⟩ hM (cwI 0 hts hG rfl rfl rfl (hts _ w3) (hts _ w1) (hts _ w2) hy hd hR) (preN_S C X P) rfl rfl hsz rfl (lv_room hw) d1 hcs) P kk
theorem n_ctorN (C : Cx G own cc nL ret p s m args meth c) (X : XN G s) (P : Hn G f n s H locs) {y : MethodName} {bytes : ByteArray} {maxL idx a n' : Nat} {rm : Room} {f' : Nat → va_E} (w1 : (own, idx, y) ∈ NM) (w2 : Cond.instanceMethod y ∈ WT) (w3 : Cond.initialized y.cls ∈ WT) (w4 : Cond.code y bytes maxL none ∈ WT) (hy : y.name = "<init>") (hd : y.cls ≠ "java/lang/invoke/MethodHandle" ∧ y.cls ≠ "java/lang/invoke/VarHandle" ∧ (parseMethodDescriptor y.desc).map (fun d => d.parameters.length) = some 0) (hM : CtN l y bytes maxL rm G [.ref (G.1 + a)] f n f' n') (hR : rm.frames + 1 ≤ R.frames ∧ 8 + (maxL + 11) + rm.locals ≤ R.locals) (hcs : cells + rm.cells ≤ R.cells ∧ slots + rm.slots ≤ R.slots) (hsz : ls.size = nL) (hw : (rest.map fun v => v.category).sum ≤ 8) (d : Dc cc pc (.invokespecial idx) 3 pc')
    (kk : ∀ H1 L1, Hn G f' n' s H1 L1 → W p l e R s m args below meth c H1 L1 (cells + rm.cells) (slots + rm.slots) Q (F0 m pc' ls rest)) : W p l e R s m args below meth c H locs cells slots Q (F0 m pc ls (.ref (G.1 + a) :: rest)) := by
  obtain ⟨d1, rfl⟩ := d
  have hts := C.2.2.2.2.2.1
  have hG : GoodIn WT (Cond.code y bytes maxL none :: WT) := fun w hw => by
    have h : w ∈ WT := (List.mem_cons.mp hw).elim (fun h => by rw [h]; exact w4) id
    exact ⟨h, wt_good w h⟩
  exact n_callN (va_runIN (As := []) (rest := rest) ⟨C.1, C.2.1, C.2.2.1, C.2.2.2.2.1, hts⟩ hM ⟨va_cnB 0 hts hG rfl rfl rfl (X.2.2.2.1 _ w1) (hts _ w3) hd hR, hy, hts _ w2⟩ (preN_S C X P) rfl rfl hsz rfl (lv_room hw) d1 hcs) P kk
end NC
def blk (f : Nat → va_E) (a m : Nat) (g : Nat → va_E) : Nat → va_E := fun j => if a ≤ j ∧ j < a + m then g (j - a) else f j
def ptE (G : Gd) (a k : Nat) : va_E := .inr (1, [.int 0, if 0 < k then .ref (G.1 + (a + 1)) else .null, if 1 < k then .ref (G.1 + (a + 2)) else .null, if 2 < k then .ref (G.1 + (a + 3)) else .null, if 3 < k then .ref (G.1 + (a + 4)) else .null, if 4 < k then .ref (G.1 + (a + 5)) else .null, if 5 < k then .ref (G.1 + (a + 6)) else .null, if 6 < k then .ref (G.1 + (a + 7)) else .null])
def arI (G : Gd) (N : Nat) : va_E := .inl (aI G, N, .inl (fun _ => 0))
def ptC (G : Gd) (a r : Nat) : va_E := if r = 0 then ptE G a 7 else arI G 10
def ptK (G : Gd) (f : Nat → va_E) (a k : Nat) : Nat → va_E := fun j => if j = a then ptE G a k else if a < j ∧ j < a + 1 + k then arI G 10 else f j
theorem ptK_s (G : Gd) (f : Nat → va_E) (a k n : Nat) (hn : n = a + 1 + k) (j : Nat) : fu (fu (ptK G f a k) n (arI G 10)) a (ptE G a (k + 1)) j = ptK G f a (k + 1) j := by
  subst hn
  unfold fu ptK
  by_cases h1 : j = a
  · simp [h1]
  · by_cases h2 : j = a + 1 + k
    · simp only [if_neg h1, if_pos h2]
      rw [if_pos (by omega)]
    · simp only [if_neg h1, if_neg h2]
      by_cases h3 : a < j ∧ j < a + 1 + k
      · rw [if_pos h3, if_pos (by omega)]
      · rw [if_neg h3, if_neg (by omega)]
theorem ptK_a (G : Gd) (f : Nat → va_E) (a k : Nat) : ptK G f a k a = ptE G a k := by simp [ptK]
theorem ptK_e (G : Gd) (f : Nat → va_E) (a j : Nat) : ptK G f a 7 j = blk f a 8 (ptC G a) j := by
  unfold ptK blk ptC
  by_cases h1 : j = a
  · subst h1; simp
  · by_cases h3 : a < j ∧ j < a + 1 + 7
    · rw [if_neg h1, if_pos h3, if_pos (by omega), if_neg (by omega)]
    · rw [if_neg h1, if_neg h3, if_neg (by omega)]
theorem dX1_init_0 : Dc cX1_init 0 (.aload_n 0) 1 1 := ⟨by decide +kernel, rfl⟩
theorem dX1_init_1 : Dc cX1_init 1 (.invokespecial 3) 3 4 := ⟨by decide +kernel, rfl⟩
theorem dX1_init_4 : Dc cX1_init 4 (.aload_n 0) 1 5 := ⟨by decide +kernel, rfl⟩
theorem dX1_init_5 : Dc cX1_init 5 (.bipush 10) 2 7 := ⟨by decide +kernel, rfl⟩
theorem dX1_init_7 : Dc cX1_init 7 (.newarray .int) 2 9 := ⟨by decide +kernel, rfl⟩
theorem dX1_init_9 : Dc cX1_init 9 (.putfield 9) 3 12 := ⟨by decide +kernel, rfl⟩
theorem dX1_init_12 : Dc cX1_init 12 (.aload_n 0) 1 13 := ⟨by decide +kernel, rfl⟩
theorem dX1_init_13 : Dc cX1_init 13 (.bipush 10) 2 15 := ⟨by decide +kernel, rfl⟩
theorem dX1_init_15 : Dc cX1_init 15 (.newarray .int) 2 17 := ⟨by decide +kernel, rfl⟩
theorem dX1_init_17 : Dc cX1_init 17 (.putfield 15) 3 20 := ⟨by decide +kernel, rfl⟩
theorem dX1_init_20 : Dc cX1_init 20 (.aload_n 0) 1 21 := ⟨by decide +kernel, rfl⟩
theorem dX1_init_21 : Dc cX1_init 21 (.bipush 10) 2 23 := ⟨by decide +kernel, rfl⟩
theorem dX1_init_23 : Dc cX1_init 23 (.newarray .int) 2 25 := ⟨by decide +kernel, rfl⟩
theorem dX1_init_25 : Dc cX1_init 25 (.putfield 18) 3 28 := ⟨by decide +kernel, rfl⟩
theorem dX1_init_28 : Dc cX1_init 28 (.aload_n 0) 1 29 := ⟨by decide +kernel, rfl⟩
theorem dX1_init_29 : Dc cX1_init 29 (.bipush 10) 2 31 := ⟨by decide +kernel, rfl⟩
theorem dX1_init_31 : Dc cX1_init 31 (.newarray .int) 2 33 := ⟨by decide +kernel, rfl⟩
theorem dX1_init_33 : Dc cX1_init 33 (.putfield 21) 3 36 := ⟨by decide +kernel, rfl⟩
theorem dX1_init_36 : Dc cX1_init 36 (.aload_n 0) 1 37 := ⟨by decide +kernel, rfl⟩
theorem dX1_init_37 : Dc cX1_init 37 (.bipush 10) 2 39 := ⟨by decide +kernel, rfl⟩
theorem dX1_init_39 : Dc cX1_init 39 (.newarray .int) 2 41 := ⟨by decide +kernel, rfl⟩
theorem dX1_init_41 : Dc cX1_init 41 (.putfield 24) 3 44 := ⟨by decide +kernel, rfl⟩
theorem dX1_init_44 : Dc cX1_init 44 (.aload_n 0) 1 45 := ⟨by decide +kernel, rfl⟩
theorem dX1_init_45 : Dc cX1_init 45 (.bipush 10) 2 47 := ⟨by decide +kernel, rfl⟩
theorem dX1_init_47 : Dc cX1_init 47 (.newarray .int) 2 49 := ⟨by decide +kernel, rfl⟩
theorem dX1_init_49 : Dc cX1_init 49 (.putfield 27) 3 52 := ⟨by decide +kernel, rfl⟩
theorem dX1_init_52 : Dc cX1_init 52 (.aload_n 0) 1 53 := ⟨by decide +kernel, rfl⟩
theorem dX1_init_53 : Dc cX1_init 53 (.bipush 10) 2 55 := ⟨by decide +kernel, rfl⟩
theorem dX1_init_55 : Dc cX1_init 55 (.newarray .int) 2 57 := ⟨by decide +kernel, rfl⟩
theorem dX1_init_57 : Dc cX1_init 57 (.putfield 30) 3 60 := ⟨by decide +kernel, rfl⟩
theorem dX1_init_60 : Dc cX1_init 60 (.return_) 1 61 := ⟨by decide +kernel, rfl⟩
abbrev rmX1_init : Room := { frames := 1, cells := 7, slots := 70, locals := 40 }
set_option maxHeartbeats 4000000 in
set_option maxRecDepth 100000 in
theorem ctX1_init (l : Launch) (G : Gd) (f : Nat → va_E) (a : Nat) (h0 : f a = ptE G a 0) : CtN l yX1_init cX1_init 1 rmX1_init G [.ref (G.1 + a)] f (a + 1) (blk f a 8 (ptC G a)) (a + 8) := by
  refine ctn_of (by decide +kernel) rfl (Nat.le_of_ble_eq_true rfl) (fun p e s m below meth c ls C hin X P hl => ?_)
  have C : Cx G RX1 cX1_init 1 none p s m _ meth c := C
  have hl : lv_has ls 1 [(0, .ref (G.1 + a))] := hl
  refine r_aload_n C hl 0 rfl rfl dX1_init_0 ?_
  refine n_objInit C wd_61 hl.1 ⟨Nat.le_of_ble_eq_true rfl, Nat.le_of_ble_eq_true rfl⟩ dX1_init_1 ?_
  have P : Hn G (ptK G f a 0) (a + 1) s s.heap [] := P.to (fun k hk => by
    unfold ptK
    by_cases h : k = a
    · rw [if_pos h, h, h0]
    · rw [if_neg h, if_neg (by omega)])
  refine r_aload_n C hl 0 rfl rfl dX1_init_4 ?_
  refine r_bipush C (v := 10) (by decide) dX1_init_5 ?_
  refine n_newa C P (ty := .int) (cA := aI G) (t0 := 0) rfl wd_96 rfl (fun _ h => nomatch h) (a0 := (10, .inl fun _ => 0)) (N := 10) (fun _ => rfl) ⟨by decide, by decide, by decide⟩ ⟨Nat.le_of_ble_eq_true rfl, Nat.le_of_ble_eq_true rfl⟩ dX1_init_7 (fun H P => ?_)
  refine n_putF C hin P (T := TX1) (N := 8) in_X1 tyX1 tyX1_ok nmX1 (ci := 1) rfl 1 (by decide) wd_66 rfl rfl (a := a) (by omega) (fs := [.int 0, .null, .null, .null, .null, .null, .null, .null]) (by rw [fu, if_neg (by omega), ptK_a]; rfl) (ty := (.array .int)) (by decide +kernel) rfl rfl (Nat.le_of_ble_eq_true rfl) dX1_init_9 (fun H L P => ?_)
  have P : Hn G (ptK G f a 1) (a + 2) s H L := P.to (fun j _ => ptK_s G f a 0 _ rfl j)
  refine r_aload_n C hl 0 rfl rfl dX1_init_12 ?_
  refine r_bipush C (v := 10) (by decide) dX1_init_13 ?_
  refine n_newa C P (ty := .int) (cA := aI G) (t0 := 0) rfl wd_96 rfl (fun _ h => nomatch h) (a0 := (10, .inl fun _ => 0)) (N := 10) (fun _ => rfl) ⟨by decide, by decide, by decide⟩ ⟨Nat.le_of_ble_eq_true rfl, Nat.le_of_ble_eq_true rfl⟩ dX1_init_15 (fun H P => ?_)
  refine n_putF C hin P (T := TX1) (N := 8) in_X1 tyX1 tyX1_ok nmX1 (ci := 1) rfl 2 (by decide) wd_68 rfl rfl (a := a) (by omega) (fs := [.int 0, .ref (G.1 + (a + 1)), .null, .null, .null, .null, .null, .null]) (by rw [fu, if_neg (by omega), ptK_a]; rfl) (ty := (.array .int)) (by decide +kernel) rfl rfl (Nat.le_of_ble_eq_true rfl) dX1_init_17 (fun H L P => ?_)
  have P : Hn G (ptK G f a 2) (a + 3) s H L := P.to (fun j _ => ptK_s G f a 1 _ rfl j)
  refine r_aload_n C hl 0 rfl rfl dX1_init_20 ?_
  refine r_bipush C (v := 10) (by decide) dX1_init_21 ?_
  refine n_newa C P (ty := .int) (cA := aI G) (t0 := 0) rfl wd_96 rfl (fun _ h => nomatch h) (a0 := (10, .inl fun _ => 0)) (N := 10) (fun _ => rfl) ⟨by decide, by decide, by decide⟩ ⟨Nat.le_of_ble_eq_true rfl, Nat.le_of_ble_eq_true rfl⟩ dX1_init_23 (fun H P => ?_)
  refine n_putF C hin P (T := TX1) (N := 8) in_X1 tyX1 tyX1_ok nmX1 (ci := 1) rfl 3 (by decide) wd_70 rfl rfl (a := a) (by omega) (fs := [.int 0, .ref (G.1 + (a + 1)), .ref (G.1 + (a + 2)), .null, .null, .null, .null, .null]) (by rw [fu, if_neg (by omega), ptK_a]; rfl) (ty := (.array .int)) (by decide +kernel) rfl rfl (Nat.le_of_ble_eq_true rfl) dX1_init_25 (fun H L P => ?_)
  have P : Hn G (ptK G f a 3) (a + 4) s H L := P.to (fun j _ => ptK_s G f a 2 _ rfl j)
  refine r_aload_n C hl 0 rfl rfl dX1_init_28 ?_
  refine r_bipush C (v := 10) (by decide) dX1_init_29 ?_
  refine n_newa C P (ty := .int) (cA := aI G) (t0 := 0) rfl wd_96 rfl (fun _ h => nomatch h) (a0 := (10, .inl fun _ => 0)) (N := 10) (fun _ => rfl) ⟨by decide, by decide, by decide⟩ ⟨Nat.le_of_ble_eq_true rfl, Nat.le_of_ble_eq_true rfl⟩ dX1_init_31 (fun H P => ?_)
  refine n_putF C hin P (T := TX1) (N := 8) in_X1 tyX1 tyX1_ok nmX1 (ci := 1) rfl 4 (by decide) wd_73 rfl rfl (a := a) (by omega) (fs := [.int 0, .ref (G.1 + (a + 1)), .ref (G.1 + (a + 2)), .ref (G.1 + (a + 3)), .null, .null, .null, .null]) (by rw [fu, if_neg (by omega), ptK_a]; rfl) (ty := (.array .int)) (by decide +kernel) rfl rfl (Nat.le_of_ble_eq_true rfl) dX1_init_33 (fun H L P => ?_)
  have P : Hn G (ptK G f a 4) (a + 5) s H L := P.to (fun j _ => ptK_s G f a 3 _ rfl j)
  refine r_aload_n C hl 0 rfl rfl dX1_init_36 ?_
  refine r_bipush C (v := 10) (by decide) dX1_init_37 ?_
  refine n_newa C P (ty := .int) (cA := aI G) (t0 := 0) rfl wd_96 rfl (fun _ h => nomatch h) (a0 := (10, .inl fun _ => 0)) (N := 10) (fun _ => rfl) ⟨by decide, by decide, by decide⟩ ⟨Nat.le_of_ble_eq_true rfl, Nat.le_of_ble_eq_true rfl⟩ dX1_init_39 (fun H P => ?_)
  refine n_putF C hin P (T := TX1) (N := 8) in_X1 tyX1 tyX1_ok nmX1 (ci := 1) rfl 5 (by decide) wd_74 rfl rfl (a := a) (by omega) (fs := [.int 0, .ref (G.1 + (a + 1)), .ref (G.1 + (a + 2)), .ref (G.1 + (a + 3)), .ref (G.1 + (a + 4)), .null, .null, .null]) (by rw [fu, if_neg (by omega), ptK_a]; rfl) (ty := (.array .int)) (by decide +kernel) rfl rfl (Nat.le_of_ble_eq_true rfl) dX1_init_41 (fun H L P => ?_)
  have P : Hn G (ptK G f a 5) (a + 6) s H L := P.to (fun j _ => ptK_s G f a 4 _ rfl j)
  refine r_aload_n C hl 0 rfl rfl dX1_init_44 ?_
  refine r_bipush C (v := 10) (by decide) dX1_init_45 ?_
  refine n_newa C P (ty := .int) (cA := aI G) (t0 := 0) rfl wd_96 rfl (fun _ h => nomatch h) (a0 := (10, .inl fun _ => 0)) (N := 10) (fun _ => rfl) ⟨by decide, by decide, by decide⟩ ⟨Nat.le_of_ble_eq_true rfl, Nat.le_of_ble_eq_true rfl⟩ dX1_init_47 (fun H P => ?_)
  refine n_putF C hin P (T := TX1) (N := 8) in_X1 tyX1 tyX1_ok nmX1 (ci := 1) rfl 6 (by decide) wd_75 rfl rfl (a := a) (by omega) (fs := [.int 0, .ref (G.1 + (a + 1)), .ref (G.1 + (a + 2)), .ref (G.1 + (a + 3)), .ref (G.1 + (a + 4)), .ref (G.1 + (a + 5)), .null, .null]) (by rw [fu, if_neg (by omega), ptK_a]; rfl) (ty := (.array .int)) (by decide +kernel) rfl rfl (Nat.le_of_ble_eq_true rfl) dX1_init_49 (fun H L P => ?_)
  have P : Hn G (ptK G f a 6) (a + 7) s H L := P.to (fun j _ => ptK_s G f a 5 _ rfl j)
  refine r_aload_n C hl 0 rfl rfl dX1_init_52 ?_
  refine r_bipush C (v := 10) (by decide) dX1_init_53 ?_
  refine n_newa C P (ty := .int) (cA := aI G) (t0 := 0) rfl wd_96 rfl (fun _ h => nomatch h) (a0 := (10, .inl fun _ => 0)) (N := 10) (fun _ => rfl) ⟨by decide, by decide, by decide⟩ ⟨Nat.le_of_ble_eq_true rfl, Nat.le_of_ble_eq_true rfl⟩ dX1_init_55 (fun H P => ?_)
  refine n_putF C hin P (T := TX1) (N := 8) in_X1 tyX1 tyX1_ok nmX1 (ci := 1) rfl 7 (by decide) wd_77 rfl rfl (a := a) (by omega) (fs := [.int 0, .ref (G.1 + (a + 1)), .ref (G.1 + (a + 2)), .ref (G.1 + (a + 3)), .ref (G.1 + (a + 4)), .ref (G.1 + (a + 5)), .ref (G.1 + (a + 6)), .null]) (by rw [fu, if_neg (by omega), ptK_a]; rfl) (ty := (.array .int)) (by decide +kernel) rfl rfl (Nat.le_of_ble_eq_true rfl) dX1_init_57 (fun H L P => ?_)
  have P : Hn G (ptK G f a 7) (a + 8) s H L := P.to (fun j _ => ptK_s G f a 6 _ rfl j)
  exact n_vret C (P.to (fun j _ => ptK_e G f a j)) (rm := rmX1_init) ⟨rfl, rfl⟩ dX1_init_60
theorem dX3_init_0 : Dc cX3_init 0 (.aload_n 0) 1 1 := ⟨by decide +kernel, rfl⟩
theorem dX3_init_1 : Dc cX3_init 1 (.invokespecial 3) 3 4 := ⟨by decide +kernel, rfl⟩
theorem dX3_init_4 : Dc cX3_init 4 (.aload_n 0) 1 5 := ⟨by decide +kernel, rfl⟩
theorem dX3_init_5 : Dc cX3_init 5 (.iconst (-1)) 1 6 := ⟨by decide +kernel, rfl⟩
theorem dX3_init_6 : Dc cX3_init 6 (.putfield 9) 3 9 := ⟨by decide +kernel, rfl⟩
theorem dX3_init_9 : Dc cX3_init 9 (.aload_n 0) 1 10 := ⟨by decide +kernel, rfl⟩
theorem dX3_init_10 : Dc cX3_init 10 (.new 15) 3 13 := ⟨by decide +kernel, rfl⟩
theorem dX3_init_13 : Dc cX3_init 13 (.dup) 1 14 := ⟨by decide +kernel, rfl⟩
theorem dX3_init_14 : Dc cX3_init 14 (.invokespecial 17) 3 17 := ⟨by decide +kernel, rfl⟩
theorem dX3_init_17 : Dc cX3_init 17 (.putfield 18) 3 20 := ⟨by decide +kernel, rfl⟩
theorem dX3_init_20 : Dc cX3_init 20 (.return_) 1 21 := ⟨by decide +kernel, rfl⟩
def thE (G : Gd) (a : Nat) (v : Int32) (w : Value) : va_E := .inr (3, [.int 0, .int 0, .int 0, .int 0, .int 0, .int v, .int 0, w])
def thC (G : Gd) (a r : Nat) : va_E := if r = 0 then thE G a (-1) (.ref (G.1 + (a + 1))) else ptC G (a + 1) (r - 1)
theorem thK (G : Gd) (f : Nat → va_E) (a : Nat) (e1 e2 : va_E) (j : Nat) : fu (blk (fu (fu f a e1) (a + 1) e2) (a + 1) 8 (ptC G (a + 1))) a (thE G a (-1) (.ref (G.1 + (a + 1)))) j = blk f a 9 (thC G a) j := by
  unfold fu blk thC
  by_cases h1 : j = a
  · subst h1; simp
  · by_cases h3 : a + 1 ≤ j ∧ j < a + 1 + 8
    · rw [if_neg h1, if_pos h3, if_pos (by omega), if_neg (by omega)]
      congr 1 <;> omega
    · rw [if_neg h1, if_neg h3]
      rw [if_neg (show ¬ (a ≤ j ∧ j < a + 9) by omega)]
      simp only [if_neg h1, if_neg (show ¬ j = a + 1 by omega)]
abbrev rmX3_init : Room := { frames := 2, cells := 8, slots := 78, locals := 70 }
set_option maxHeartbeats 4000000 in
set_option maxRecDepth 100000 in
theorem ctX3_init (l : Launch) (G : Gd) (f : Nat → va_E) (a : Nat) (h0 : f a = thE G a 0 .null) : CtN l yX3_init cX3_init 1 rmX3_init G [.ref (G.1 + a)] f (a + 1) (blk f a 9 (thC G a)) (a + 9) := by
  refine ctn_of (by decide +kernel) rfl (Nat.le_of_ble_eq_true rfl) (fun p e s m below meth c ls C hin X P hl => ?_)
  have C : Cx G RX3 cX3_init 1 none p s m _ meth c := C
  have hl : lv_has ls 1 [(0, .ref (G.1 + a))] := hl
  refine r_aload_n C hl 0 rfl rfl dX3_init_0 ?_
  refine n_objInit C wd_55 hl.1 ⟨Nat.le_of_ble_eq_true rfl, Nat.le_of_ble_eq_true rfl⟩ dX3_init_1 ?_
  refine r_aload_n C hl 0 rfl rfl dX3_init_4 ?_
  refine r_iconst C (v := -1) (by decide) dX3_init_5 ?_
  refine n_put C P (T := TX3) (C' := RX3) (N := 8) in_X3 tyX3 tyX3_ok nmX3 (ci := 3) rfl 5 (by decide) wd_108 rfl rfl (a := a) (by omega) (fs := [.int 0, .int 0, .int 0, .int 0, .int 0, .int 0, .int 0, .null]) h0 (ty := .int) (by decide +kernel) rfl rfl (Nat.le_of_ble_eq_true rfl) dX3_init_6 (fun H L P => ?_)
  have P : Hn G (fu f a (thE G a (-1) .null)) (a + 1) s H L := P
  refine r_aload_n C hl 0 rfl rfl dX3_init_9 ?_
  refine n_new C P (T := TX1) (C' := RX1) (N := 8) (ci := 1) in_X1 tyX1 tyX1_ok wd_56 wd_57 wd_13 rfl ([.int 0, .null, .null, .null, .null, .null, .null, .null]) (fun j hj => by rcases (show j = 0 ∨ j = 1 ∨ j = 2 ∨ j = 3 ∨ j = 4 ∨ j = 5 ∨ j = 6 ∨ j = 7 by omega) with rfl | rfl | rfl | rfl | rfl | rfl | rfl | rfl <;> rfl) ⟨Nat.le_of_ble_eq_true rfl, Nat.le_of_ble_eq_true rfl⟩ dX3_init_10 (fun H P => ?_)
  refine r_dup C rfl dX3_init_13 ?_
  refine n_ctorN C X P (rm := rmX1_init) (a := a + 1) (by decide) wd_59 wd_13 wd_60 rfl (by decide +kernel) (ctX1_init l G _ (a + 1) (by simp [fu, ptE])) ⟨Nat.le_of_ble_eq_true rfl, Nat.le_of_ble_eq_true rfl⟩ ⟨Nat.le_of_ble_eq_true rfl, Nat.le_of_ble_eq_true rfl⟩ hl.1 (Nat.le_of_ble_eq_true rfl) dX3_init_14 (fun H L P => ?_)
  refine n_putF C hin P (T := TX3) (N := 8) in_X3 tyX3 tyX3_ok nmX3 (ci := 3) rfl 7 (by decide) wd_113 rfl rfl (a := a) (by omega) (fs := [.int 0, .int 0, .int 0, .int 0, .int 0, .int (-1), .int 0, .null]) (by unfold blk; rw [if_neg (by omega)]; simp [fu, thE]) (ty := (.object "ThawPoints$Points")) (by decide +kernel) rfl rfl (Nat.le_of_ble_eq_true rfl) dX3_init_17 (fun H L P => ?_)
  exact n_vret C (P.to (fun j _ => thK G f a _ _ j)) (rm := rmX3_init) ⟨rfl, rfl⟩ dX3_init_20
theorem dX4_init_0 : Dc cX4_init 0 (.aload_n 0) 1 1 := ⟨by decide +kernel, rfl⟩
theorem dX4_init_1 : Dc cX4_init 1 (.invokespecial 3) 3 4 := ⟨by decide +kernel, rfl⟩
theorem dX4_init_4 : Dc cX4_init 4 (.aload_n 0) 1 5 := ⟨by decide +kernel, rfl⟩
theorem dX4_init_5 : Dc cX4_init 5 (.bipush 60) 2 7 := ⟨by decide +kernel, rfl⟩
theorem dX4_init_7 : Dc cX4_init 7 (.newarray .char) 2 9 := ⟨by decide +kernel, rfl⟩
theorem dX4_init_9 : Dc cX4_init 9 (.putfield 9) 3 12 := ⟨by decide +kernel, rfl⟩
theorem dX4_init_12 : Dc cX4_init 12 (.aload_n 0) 1 13 := ⟨by decide +kernel, rfl⟩
theorem dX4_init_13 : Dc cX4_init 13 (.iconst 3) 1 14 := ⟨by decide +kernel, rfl⟩
theorem dX4_init_14 : Dc cX4_init 14 (.newarray .int) 2 16 := ⟨by decide +kernel, rfl⟩
theorem dX4_init_16 : Dc cX4_init 16 (.putfield 15) 3 19 := ⟨by decide +kernel, rfl⟩
theorem dX4_init_19 : Dc cX4_init 19 (.return_) 1 20 := ⟨by decide +kernel, rfl⟩
def wkE (G : Gd) (a : Nat) (v w : Value) : va_E := .inr (4, [.int 0, v, .int 0, .int 0, w, .int 0])
def arC (G : Gd) (N : Nat) : va_E := .inl (aC G, N, .inl (fun _ => 0))
def wkC (G : Gd) (a r : Nat) : va_E := if r = 0 then wkE G a (.ref (G.1 + (a + 1))) (.ref (G.1 + (a + 2))) else if r = 1 then arC G 60 else arI G 3
theorem wkK (G : Gd) (f : Nat → va_E) (a : Nat) (e1 : va_E) (j : Nat) : fu (fu (fu (fu f (a + 1) (arC G 60)) a e1) (a + 1 + 1) (arI G 3)) a (wkE G a (.ref (G.1 + (a + 1))) (.ref (G.1 + (a + 2)))) j = blk f a 3 (wkC G a) j := by
  unfold fu blk wkC
  by_cases h1 : j = a
  · subst h1; simp
  · by_cases h2 : j = a + 1
    · subst h2
      simp
    · by_cases h3 : j = a + 2
      · subst h3
        simp
      · simp only [if_neg h1, if_neg h2, if_neg h3]
        rw [if_neg (by omega)]
abbrev rmX4_init : Room := { frames := 1, cells := 2, slots := 63, locals := 40 }
set_option maxHeartbeats 4000000 in
set_option maxRecDepth 100000 in
theorem ctX4_init (l : Launch) (G : Gd) (f : Nat → va_E) (a : Nat) (h0 : f a = wkE G a .null .null) : CtN l yX4_init cX4_init 1 rmX4_init G [.ref (G.1 + a)] f (a + 1) (blk f a 3 (wkC G a)) (a + 3) := by
  refine ctn_of (by decide +kernel) rfl (Nat.le_of_ble_eq_true rfl) (fun p e s m below meth c ls C hin X P hl => ?_)
  have C : Cx G RX4 cX4_init 1 none p s m _ meth c := C
  have hl : lv_has ls 1 [(0, .ref (G.1 + a))] := hl
  refine r_aload_n C hl 0 rfl rfl dX4_init_0 ?_
  refine n_objInit C wd_191 hl.1 ⟨Nat.le_of_ble_eq_true rfl, Nat.le_of_ble_eq_true rfl⟩ dX4_init_1 ?_
  refine r_aload_n C hl 0 rfl rfl dX4_init_4 ?_
  refine r_bipush C (v := 60) (by decide) dX4_init_5 ?_
  refine n_newa C P (ty := .char) (cA := aC G) (t0 := 1) rfl wd_207 rfl (fun _ h => nomatch h) (a0 := (60, .inl fun _ => 0)) (N := 60) (fun _ => rfl) ⟨by decide, by decide, by decide⟩ ⟨Nat.le_of_ble_eq_true rfl, Nat.le_of_ble_eq_true rfl⟩ dX4_init_7 (fun H P => ?_)
  refine n_putF C hin P (T := TX4) (N := 6) in_X4 tyX4 tyX4_ok nmX4 (ci := 4) rfl 1 (by decide) wd_192 rfl rfl (a := a) (by omega) (fs := [.int 0, .null, .int 0, .int 0, .null, .int 0]) (by rw [fu, if_neg (by omega)]; exact h0) (ty := (.array .char)) (by decide +kernel) rfl rfl (Nat.le_of_ble_eq_true rfl) dX4_init_9 (fun H L P => ?_)
  refine r_aload_n C hl 0 rfl rfl dX4_init_12 ?_
  refine r_iconst C (v := 3) (by decide) dX4_init_13 ?_
  refine n_newa C P (ty := .int) (cA := aI G) (t0 := 0) rfl wd_96 rfl (fun _ h => nomatch h) (a0 := (3, .inl fun _ => 0)) (N := 3) (fun _ => rfl) ⟨by decide, by decide, by decide⟩ ⟨Nat.le_of_ble_eq_true rfl, Nat.le_of_ble_eq_true rfl⟩ dX4_init_14 (fun H P => ?_)
  refine n_putF C hin P (T := TX4) (N := 6) in_X4 tyX4 tyX4_ok nmX4 (ci := 4) rfl 4 (by decide) wd_193 rfl rfl (a := a) (by omega) (fs := [.int 0, .ref (G.1 + (a + 1)), .int 0, .int 0, .null, .int 0]) (by rw [fu, if_neg (by omega), fu, if_pos rfl]; rfl) (ty := (.array .int)) (by decide +kernel) rfl rfl (Nat.le_of_ble_eq_true rfl) dX4_init_16 (fun H L P => ?_)
  exact n_vret C (P.to (fun j _ => wkK G f a _ j)) (rm := rmX4_init) ⟨rfl, rfl⟩ dX4_init_19
theorem dX2_init_0 : Dc cX2_init 0 (.aload_n 0) 1 1 := ⟨by decide +kernel, rfl⟩
theorem dX2_init_1 : Dc cX2_init 1 (.invokespecial 3) 3 4 := ⟨by decide +kernel, rfl⟩
theorem dX2_init_4 : Dc cX2_init 4 (.aload_n 0) 1 5 := ⟨by decide +kernel, rfl⟩
theorem dX2_init_5 : Dc cX2_init 5 (.iconst (-1)) 1 6 := ⟨by decide +kernel, rfl⟩
theorem dX2_init_6 : Dc cX2_init 6 (.putfield 9) 3 9 := ⟨by decide +kernel, rfl⟩
theorem dX2_init_9 : Dc cX2_init 9 (.aload_n 0) 1 10 := ⟨by decide +kernel, rfl⟩
theorem dX2_init_10 : Dc cX2_init 10 (.iconst (-1)) 1 11 := ⟨by decide +kernel, rfl⟩
theorem dX2_init_11 : Dc cX2_init 11 (.putfield 15) 3 14 := ⟨by decide +kernel, rfl⟩
theorem dX2_init_14 : Dc cX2_init 14 (.aload_n 0) 1 15 := ⟨by decide +kernel, rfl⟩
theorem dX2_init_15 : Dc cX2_init 15 (.getstatic 18) 3 18 := ⟨by decide +kernel, rfl⟩
theorem dX2_init_18 : Dc cX2_init 18 (.invokevirtual 22) 3 21 := ⟨by decide +kernel, rfl⟩
theorem dX2_init_21 : Dc cX2_init 21 (.checkcast 23) 3 24 := ⟨by decide +kernel, rfl⟩
theorem dX2_init_24 : Dc cX2_init 24 (.putfield 27) 3 27 := ⟨by decide +kernel, rfl⟩
theorem dX2_init_27 : Dc cX2_init 27 (.aload_n 0) 1 28 := ⟨by decide +kernel, rfl⟩
theorem dX2_init_28 : Dc cX2_init 28 (.getstatic 30) 3 31 := ⟨by decide +kernel, rfl⟩
theorem dX2_init_31 : Dc cX2_init 31 (.invokevirtual 22) 3 34 := ⟨by decide +kernel, rfl⟩
theorem dX2_init_34 : Dc cX2_init 34 (.checkcast 23) 3 37 := ⟨by decide +kernel, rfl⟩
theorem dX2_init_37 : Dc cX2_init 37 (.putfield 33) 3 40 := ⟨by decide +kernel, rfl⟩
theorem dX2_init_40 : Dc cX2_init 40 (.aload_n 0) 1 41 := ⟨by decide +kernel, rfl⟩
theorem dX2_init_41 : Dc cX2_init 41 (.bipush 6) 2 43 := ⟨by decide +kernel, rfl⟩
theorem dX2_init_43 : Dc cX2_init 43 (.anewarray 36) 3 46 := ⟨by decide +kernel, rfl⟩
theorem dX2_init_46 : Dc cX2_init 46 (.putfield 38) 3 49 := ⟨by decide +kernel, rfl⟩
theorem dX2_init_49 : Dc cX2_init 49 (.iconst 0) 1 50 := ⟨by decide +kernel, rfl⟩
theorem dX2_init_50 : Dc cX2_init 50 (.istore_n 1) 1 51 := ⟨by decide +kernel, rfl⟩
theorem dX2_init_51 : Dc cX2_init 51 (.iload_n 1) 1 52 := ⟨by decide +kernel, rfl⟩
theorem dX2_init_52 : Dc cX2_init 52 (.aload_n 0) 1 53 := ⟨by decide +kernel, rfl⟩
theorem dX2_init_53 : Dc cX2_init 53 (.getfield 38) 3 56 := ⟨by decide +kernel, rfl⟩
theorem dX2_init_56 : Dc cX2_init 56 (.arraylength) 1 57 := ⟨by decide +kernel, rfl⟩
theorem dX2_init_57 : Dj cX2_init 57 (.if_icmp .ge 22) 3 60 (22) 79 := ⟨by decide +kernel, rfl, by decide⟩
theorem dX2_init_60 : Dc cX2_init 60 (.aload_n 0) 1 61 := ⟨by decide +kernel, rfl⟩
theorem dX2_init_61 : Dc cX2_init 61 (.getfield 38) 3 64 := ⟨by decide +kernel, rfl⟩
theorem dX2_init_64 : Dc cX2_init 64 (.iload_n 1) 1 65 := ⟨by decide +kernel, rfl⟩
theorem dX2_init_65 : Dc cX2_init 65 (.new 36) 3 68 := ⟨by decide +kernel, rfl⟩
theorem dX2_init_68 : Dc cX2_init 68 (.dup) 1 69 := ⟨by decide +kernel, rfl⟩
theorem dX2_init_69 : Dc cX2_init 69 (.invokespecial 42) 3 72 := ⟨by decide +kernel, rfl⟩
theorem dX2_init_72 : Dc cX2_init 72 (.aastore) 1 73 := ⟨by decide +kernel, rfl⟩
theorem dX2_init_73 : Dc cX2_init 73 (.iinc 1 1) 3 76 := ⟨by decide +kernel, rfl⟩
theorem dX2_init_76 : Dj cX2_init 76 (.goto (-25)) 3 79 (-25) 51 := ⟨by decide +kernel, rfl, by decide⟩
theorem dX2_init_79 : Dc cX2_init 79 (.return_) 1 80 := ⟨by decide +kernel, rfl⟩
theorem blk_out {f g : Nat → va_E} {a m j : Nat} (h : ¬ (a ≤ j ∧ j < a + m)) : blk f a m g j = f j := by unfold blk; rw [if_neg h]
theorem blk_in {f g : Nat → va_E} {a m j : Nat} (h : a ≤ j ∧ j < a + m) : blk f a m g j = g (j - a) := by unfold blk; rw [if_pos h]
theorem fu_n {f : Nat → va_E} {k j : Nat} {e : va_E} (h : ¬ j = k) : fu f k e j = f j := by unfold fu; rw [if_neg h]
theorem fu_s {f : Nat → va_E} {k : Nat} {e : va_E} : fu f k e k = e := by unfold fu; rw [if_pos rfl]
def stE (G : Gd) (v w : Int32) (x y z : Value) : va_E := .inr (2, [.int 0, .int 0, .int 0, .int v, .int w, x, y, z])
def rfT (G : Gd) (a i : Nat) : Nat → Option Nat := fun n => if n < i then some (G.1 + (a + 4 + 9 * n)) else none
def arT (G : Gd) (g : Nat → Option Nat) : va_E := .inl (aT G, 6, .inr (.inr (.inr (.inr g))))
def stI (G : Gd) (a i r : Nat) : va_E := if r = 0 then stE G (-1) (-1) (.ref (G.1 + (a + 1))) (.ref (G.1 + (a + 2))) (.ref (G.1 + (a + 3))) else if r = 1 then .inl (aI G, 4, .inl fFB) else if r = 2 then .inl (aI G, 7, .inl fFS) else if r = 3 then arT G (rfT G a i) else thC G (a + 4 + 9 * ((r - 4) / 9)) ((r - 4) % 9)
def stW (G : Gd) (f : Nat → va_E) (a i : Nat) : Nat → va_E := blk f a (4 + 9 * i) (stI G a i)
def stC (G : Gd) (a r : Nat) : va_E := stI G a 6 r
theorem stK0 (G : Gd) (f : Nat → va_E) (a : Nat) (e1 e2 e3 e4 : va_E) (j : Nat) : fu (fu (fu (fu (fu (fu (fu (fu f a e1) a e2) (a + 1) (.inl (aI G, 4, .inl fFB))) a e3) (a + 1 + 1) (.inl (aI G, 7, .inl fFS))) a e4) (a + 1 + 1 + 1) (arT G (fun _ => none))) a (stE G (-1) (-1) (.ref (G.1 + (a + 1))) (.ref (G.1 + (a + 2))) (.ref (G.1 + (a + 3)))) j = stW G f a 0 j := by
  unfold stW fu blk stI
  by_cases h1 : j = a
  · subst h1; simp
  · by_cases h2 : j = a + 1
    · subst h2
      simp
    · by_cases h3 : j = a + 2
      · subst h3
        simp
      · by_cases h4 : j = a + 3
        · subst h4
          simp
          rfl
        · simp only [if_neg h1, if_neg h2, if_neg h3, if_neg h4]
          rw [if_neg (by omega)]
theorem stK1 (G : Gd) (f : Nat → va_E) (a i : Nat) (e1 : va_E) (n : Nat) (hn : n = a + 4 + 9 * i) (j : Nat) : fu (blk (fu (stW G f a i) n e1) n 9 (thC G n)) (a + 3) (arT G (va_up (rfT G a i) i (some (G.1 + n)))) j = stW G f a (i + 1) j := by
  subst hn
  have hr : va_up (rfT G a i) i (some (G.1 + (a + 4 + 9 * i))) = rfT G a (i + 1) := by
    funext n
    unfold va_up rfT
    by_cases h : n = i
    · subst h; simp
    · rw [if_neg h]
      by_cases h2 : n < i
      · rw [if_pos h2, if_pos (by omega)]
      · rw [if_neg h2, if_neg (by omega)]
  rw [hr]
  by_cases h1 : j = a + 3
  · subst h1
    unfold stW
    rw [fu_s, blk_in (by omega), Nat.add_sub_cancel_left]
    rfl
  · rw [fu_n h1]
    by_cases h2 : a + 4 + 9 * i ≤ j ∧ j < a + 4 + 9 * i + 9
    · unfold stW
      rw [blk_in h2, blk_in (by omega)]
      unfold stI
      rw [if_neg (by omega), if_neg (by omega), if_neg (by omega), if_neg (by omega)]
      rw [show (j - a - 4) / 9 = i by omega, show (j - a - 4) % 9 = j - (a + 4 + 9 * i) by omega]
    · rw [blk_out h2, fu_n (by omega)]
      unfold stW
      by_cases h3 : a ≤ j ∧ j < a + (4 + 9 * i)
      · rw [blk_in h3, blk_in (by omega)]
        unfold stI
        simp only [if_neg (show ¬ j - a = 3 by omega)]
      · rw [blk_out h3, blk_out (by omega)]
theorem stW_in {G : Gd} {f : Nat → va_E} {a i : Nat} (r : Nat) (h : r < 4) : stW G f a i (a + r) = stI G a i r := by
  unfold stW blk
  rw [if_pos (by omega), Nat.add_sub_cancel_left]
theorem stW_a {G : Gd} {f : Nat → va_E} {a i : Nat} : stW G f a i a = stE G (-1) (-1) (.ref (G.1 + (a + 1))) (.ref (G.1 + (a + 2))) (.ref (G.1 + (a + 3))) := stW_in 0 (by omega)
theorem stW_3 {G : Gd} {f : Nat → va_E} {a i : Nat} : stW G f a i (a + 3) = arT G (rfT G a i) := stW_in 3 (by omega)
abbrev rmX2_init : Room := { frames := 3, cells := 57, slots := 533, locals := 110 }
set_option maxHeartbeats 4000000 in
set_option maxRecDepth 100000 in
theorem lX2_init {G : Gd} {p : Program} {l : Launch} {e : Env} {s : State} {m : MethodId} {args : Array Value} {below : List Frame} {meth : Method} {c : Code} {f : Nat → va_E} {a : Nat} (C : Cx G RX2 cX2_init 2 none p s m args meth c) (hin : meth.name = "<init>") (X : XN G s) : ∀ (k i : Nat), i + k = 6 → ∀ H1 L1 ls, Hn G (stW G f a i) (a + 4 + 9 * i) s H1 L1 → lv_has ls 2 [(1, .int (nI i)), (0, .ref (G.1 + a))] → W p l e rmX2_init s m args below meth c H1 L1 (3 + 9 * i) (17 + 86 * i) (Qn G (blk f a 58 (stC G a)) (a + 58) rmX2_init below args s) (F0 m 51 ls []) := by
  intro k
  induction k with
  | zero =>
    intro i hi H1 L1 ls P hl
    obtain rfl : i = 6 := by omega
    refine r_iload_n C hl 0 rfl rfl dX2_init_51 ?_
    refine r_aload_n C hl 1 rfl rfl dX2_init_52 ?_
    refine n_get C P (T := TX2) (C' := RX2) (N := 8) (ci := 2) in_X2 rfl 7 (by decide) wd_147 rfl (a := a) (by omega) stW_a rfl dX2_init_53 ?_
    refine n_alen C P (t0 := 4) (v := 6) rfl (by omega) stW_3 rfl dX2_init_56 ?_
    refine lv_icmp_ge (tgt := 79) C.1 C.2.1 dX2_init_57.1 dX2_init_57.2.2 (fun _ => ?_) (fun h => absurd (by decide) h)
    exact n_vret C P (rm := rmX2_init) ⟨rfl, rfl⟩ dX2_init_79
  | succ k ih =>
    intro i hi H1 L1 ls P hl
    have hi6 : i < 6 := by omega
    refine r_iload_n C hl 0 rfl rfl dX2_init_51 ?_
    refine r_aload_n C hl 1 rfl rfl dX2_init_52 ?_
    refine n_get C P (T := TX2) (C' := RX2) (N := 8) (ci := 2) in_X2 rfl 7 (by decide) wd_147 rfl (a := a) (by omega) stW_a rfl dX2_init_53 ?_
    refine n_alen C P (t0 := 4) (v := 6) rfl (by omega) stW_3 rfl dX2_init_56 ?_
    refine lv_icmp_ge (tgt := 79) C.1 C.2.1 dX2_init_57.1 dX2_init_57.2.2 (fun h => absurd h (nI_ge (b := 6) hi6 (by decide))) (fun _ => ?_)
    refine r_aload_n C hl 1 rfl rfl dX2_init_60 ?_
    refine n_get C P (T := TX2) (C' := RX2) (N := 8) (ci := 2) in_X2 rfl 7 (by decide) wd_147 rfl (a := a) (by omega) stW_a rfl dX2_init_61 ?_
    refine r_iload_n C hl 0 rfl rfl dX2_init_64 ?_
    refine n_new C P (T := TX3) (C' := RX3) (N := 8) (ci := 3) in_X3 tyX3 tyX3_ok wd_49 wd_51 wd_12 rfl ([.int 0, .int 0, .int 0, .int 0, .int 0, .int 0, .int 0, .null]) (fun j hj => by rcases (show j = 0 ∨ j = 1 ∨ j = 2 ∨ j = 3 ∨ j = 4 ∨ j = 5 ∨ j = 6 ∨ j = 7 by omega) with rfl | rfl | rfl | rfl | rfl | rfl | rfl | rfl <;> rfl) ⟨by show _ ≤ 57; omega, by show _ ≤ 533; omega⟩ dX2_init_65 (fun H P => ?_)
    refine r_dup C rfl dX2_init_68 ?_
    refine n_ctorN C X P (rm := rmX3_init) (a := a + 4 + 9 * i) (by decide) wd_53 wd_12 wd_54 rfl (by decide +kernel) (ctX3_init l G _ (a + 4 + 9 * i) fu_s) ⟨Nat.le_of_ble_eq_true rfl, Nat.le_of_ble_eq_true rfl⟩ ⟨by show _ + 8 ≤ 57; omega, by show _ + 78 ≤ 533; omega⟩ hl.1 (Nat.le_of_ble_eq_true rfl) dX2_init_69 (fun H L P => ?_)
    refine n_aast C P (a := a + 3) (b := a + 4 + 9 * i) (t0 := 4) (ci := 3) (r := (RX3, TX3, 8)) (cA := aT G) (N := 6) (g := rfT G a i) (vs := [.int 0, .int 0, .int 0, .int 0, .int 0, .int (-1), .int 0, .ref (G.1 + (a + 4 + 9 * i + 1))]) rfl rfl (by omega) (by rw [blk_out (by omega), fu_n (by omega)]; exact stW_3) (by omega) (by rw [blk_in (by omega), Nat.sub_self]; rfl) (i := nI i) (vp_in_nI hi6 (by decide)) dX2_init_72 (fun H L P => ?_)
    rw [nI_clamp (by omega)] at P
    have P : Hn G (stW G f a (i + 1)) (a + 4 + 9 * (i + 1)) s H L := P.to (fun j _ => stK1 G f a i _ _ rfl j)
    refine lv_iinc (v := nI (i + 1)) (lv' := [(1, .int (nI (i + 1))), (0, .ref (G.1 + a))]) C.1 C.2.1 dX2_init_73.1 hl (k := 0) rfl (by rw [nI_succ]; rfl) (by decide) rfl (fun ls hl => ?_)
    refine W.eq (g2 := F0 m 76 ls []) rfl ?_
    refine r_goto C dX2_init_76 ?_
    exact ih (i + 1) (by omega) _ _ _ P hl
set_option maxHeartbeats 4000000 in
set_option maxRecDepth 100000 in
theorem ctX2_init (l : Launch) (G : Gd) (f : Nat → va_E) (a : Nat) (h0 : f a = stE G 0 0 .null .null .null) : CtN l yX2_init cX2_init 2 rmX2_init G [.ref (G.1 + a)] f (a + 1) (blk f a 58 (stC G a)) (a + 58) := by
  refine ctn_of (by decide +kernel) rfl (Nat.le_of_ble_eq_true rfl) (fun p e s m below meth c ls C hin X P hl => ?_)
  have C : Cx G RX2 cX2_init 2 none p s m _ meth c := C
  have hl : lv_has ls 2 [(0, .ref (G.1 + a))] := hl
  obtain ⟨b1, S1⟩ := X.1
  obtain ⟨b2, S2⟩ := X.2.1
  refine r_aload_n C hl 0 rfl rfl dX2_init_0 ?_
  refine n_objInit C wd_37 hl.1 ⟨Nat.le_of_ble_eq_true rfl, Nat.le_of_ble_eq_true rfl⟩ dX2_init_1 ?_
  refine r_aload_n C hl 0 rfl rfl dX2_init_4 ?_
  refine r_iconst C (v := -1) (by decide) dX2_init_5 ?_
  refine n_put C P (T := TX2) (C' := RX2) (N := 8) in_X2 tyX2 tyX2_ok nmX2 (ci := 2) rfl 3 (by decide) wd_139 rfl rfl (a := a) (by omega) (fs := [.int 0, .int 0, .int 0, .int 0, .int 0, .null, .null, .null]) h0 (ty := .int) (by decide +kernel) rfl rfl (Nat.le_of_ble_eq_true rfl) dX2_init_6 (fun H L P => ?_)
  refine r_aload_n C hl 0 rfl rfl dX2_init_9 ?_
  refine r_iconst C (v := -1) (by decide) dX2_init_10 ?_
  refine n_put C P (T := TX2) (C' := RX2) (N := 8) in_X2 tyX2 tyX2_ok nmX2 (ci := 2) rfl 4 (by decide) wd_141 rfl rfl (a := a) (by omega) (fs := [.int 0, .int 0, .int 0, .int (-1), .int 0, .null, .null, .null]) (by rw [fu_s]; rfl) (ty := .int) (by decide +kernel) rfl rfl (Nat.le_of_ble_eq_true rfl) dX2_init_11 (fun H L P => ?_)
  refine r_aload_n C hl 0 rfl rfl dX2_init_14 ?_
  refine va_getsN (ref := "ThawPoints") C.1 C.2.1 S1.1 P.2.2 C.2.2.2.2.1 (va_Nw.use rfl (X.2.2.1 (18, "FIRST_BATHS") (by decide))) (fun _ h9 => h9) dX2_init_15.1 ?_
  refine W.eq (g2 := F0 m 18 ls [.ref b1, .ref (G.1 + a)]) rfl ?_
  refine n_clone C P S1 X.2.2.2.2.1 wd_40 hl.1 ⟨⟨Nat.le_of_ble_eq_true rfl, Nat.le_of_ble_eq_true rfl⟩, ⟨Nat.le_of_ble_eq_true rfl, Nat.le_of_ble_eq_true rfl⟩⟩ dX2_init_18 (fun H P => ?_)
  refine n_cast C P wd_46 (by omega) fu_s dX2_init_21 ?_
  refine n_putF C hin P (T := TX2) (N := 8) in_X2 tyX2 tyX2_ok nmX2 (ci := 2) rfl 5 (by decide) wd_143 rfl rfl (a := a) (by omega) (fs := [.int 0, .int 0, .int 0, .int (-1), .int (-1), .null, .null, .null]) (by rw [fu_n (by omega), fu_s]; rfl) (ty := (.array .int)) (by decide +kernel) rfl rfl (Nat.le_of_ble_eq_true rfl) dX2_init_24 (fun H L P => ?_)
  refine r_aload_n C hl 0 rfl rfl dX2_init_27 ?_
  refine va_getsN (ref := "ThawPoints") C.1 C.2.1 S2.1 P.2.2 C.2.2.2.2.1 (va_Nw.use rfl (X.2.2.1 (30, "FIRST_SETTINGS") (by decide))) (fun _ h9 => h9) dX2_init_28.1 ?_
  refine W.eq (g2 := F0 m 31 ls [.ref b2, .ref (G.1 + a)]) rfl ?_
  refine n_clone C P S2 X.2.2.2.2.1 wd_40 hl.1 ⟨⟨Nat.le_of_ble_eq_true rfl, Nat.le_of_ble_eq_true rfl⟩, ⟨Nat.le_of_ble_eq_true rfl, Nat.le_of_ble_eq_true rfl⟩⟩ dX2_init_31 (fun H P => ?_)
  refine n_cast C P wd_46 (by omega) fu_s dX2_init_34 ?_
  refine n_putF C hin P (T := TX2) (N := 8) in_X2 tyX2 tyX2_ok nmX2 (ci := 2) rfl 6 (by decide) wd_145 rfl rfl (a := a) (by omega) (fs := [.int 0, .int 0, .int 0, .int (-1), .int (-1), .ref (G.1 + (a + 1)), .null, .null]) (by rw [fu_n (by omega), fu_s]; rfl) (ty := (.array .int)) (by decide +kernel) rfl rfl (Nat.le_of_ble_eq_true rfl) dX2_init_37 (fun H L P => ?_)
  refine r_aload_n C hl 0 rfl rfl dX2_init_40 ?_
  refine r_bipush C (v := 6) (by decide) dX2_init_41 ?_
  refine n_newq C P wd_49 X.2.2.2.2.2.1 (t0 := 4) (cA := aT G) rfl (N := 6) ⟨by decide, by decide, by decide⟩ ⟨Nat.le_of_ble_eq_true rfl, Nat.le_of_ble_eq_true rfl⟩ dX2_init_43 (fun H P => ?_)
  refine n_putF C hin P (T := TX2) (N := 8) in_X2 tyX2 tyX2_ok nmX2 (ci := 2) rfl 7 (by decide) wd_147 rfl rfl (a := a) (by omega) (fs := [.int 0, .int 0, .int 0, .int (-1), .int (-1), .ref (G.1 + (a + 1)), .ref (G.1 + (a + 2)), .null]) (by rw [fu_n (by omega), fu_s]; rfl) (ty := (.array (.object "ThawPoints$Thermometer"))) (by decide +kernel) rfl rfl (Nat.le_of_ble_eq_true rfl) dX2_init_46 (fun H L P => ?_)
  have P : Hn G (stW G f a 0) (a + 4) s H L := P.to (fun j _ => stK0 G f a _ _ _ _ j)
  refine r_iconst C (v := 0) (by decide) dX2_init_49 ?_
  refine r_istore_n C [(1, .int 0), (0, .ref (G.1 + a))] hl (by decide) rfl rfl dX2_init_50 (fun ls hl => ?_)
  exact lX2_init C hin X 6 0 rfl _ _ _ P hl
