def bq {α γ : Type} (x : Option α) (k : α → Option γ) : Option γ := match x with
  | none => none
  | some q => k q
theorem bq_s {α γ : Type} {x : Option α} {k : α → Option γ} {z : γ} (h : bq x k = some z) : ∃ a, x = some a ∧ k a = some z := by
  unfold bq at h
  split at h
  · cases h
  · exact ⟨_, rfl, h⟩
theorem r_jn {κ α : Type} {k0 : κ} {K : κ → Option α} {z : α} {Goal : Prop} (Pj : κ → Prop) (hf : bd k0 K = some z) (hj : Pj k0) (kk : ∀ k, Pj k → K k = some z → Goal) : Goal := kk k0 hj hf
theorem r_ite {α : Type} {c : Prop} [Decidable c] {a b z : α} {Goal : Prop} (hf : (if c then a else b) = z) (k1 : c → a = z → Goal) (k2 : ¬ c → b = z → Goal) : Goal := by
  by_cases h : c
  · exact k1 h (ite_y hf h)
  · exact k2 h (ite_n hf h)
section RW
variable {G : Gd} {own : String} {cc : ByteArray} {nL : Nat} {ret : Option FieldType} {p : Program} {l : Launch} {e : Env} {R : Room} {s : State} {m : MethodId} {args : Array Value} {below : List Frame} {meth : Method} {c : Code} {H : Heap} {locs : List Loc} {cells slots : Nat} {Q : State → Prop} {o : OM}
variable {pc pc' : Nat} {ls : Array Slot} {rest : List Value}
theorem r_iconst (C : Cx G own cc nL ret p s m args meth c) {n : Int} {v : Int32} (hv : Int32.ofInt n = v) (d : Dc cc pc (.iconst n) 1 pc') (kk : W p l e R s m args below meth c H locs cells slots Q (F0 m pc' ls (.int v :: rest))) : W p l e R s m args below meth c H locs cells slots Q (F0 m pc ls (rest)) := by
  obtain ⟨d1, rfl⟩ := d
  exact lv_iconst C.1 C.2.1 d1 hv kk
theorem r_bipush (C : Cx G own cc nL ret p s m args meth c) {n : Int} {v : Int32} (hv : (Int8.ofInt n).toInt32 = v) (d : Dc cc pc (.bipush n) 2 pc') (kk : W p l e R s m args below meth c H locs cells slots Q (F0 m pc' ls (.int v :: rest))) : W p l e R s m args below meth c H locs cells slots Q (F0 m pc ls (rest)) := by
  obtain ⟨d1, rfl⟩ := d
  exact lv_bipush C.1 C.2.1 d1 hv kk
theorem r_sipush (C : Cx G own cc nL ret p s m args meth c) {n : Int} {v : Int32} (hv : (Int16.ofInt n).toInt32 = v) (d : Dc cc pc (.sipush n) 3 pc') (kk : W p l e R s m args below meth c H locs cells slots Q (F0 m pc' ls (.int v :: rest))) : W p l e R s m args below meth c H locs cells slots Q (F0 m pc ls (rest)) := by
  obtain ⟨d1, rfl⟩ := d
  exact lv_sipush C.1 C.2.1 d1 hv kk
theorem r_lconst (C : Cx G own cc nL ret p s m args meth c) {n : Fin 2} {v : Int64} (hv : Int64.ofNat (n : Nat) = v) (d : Dc cc pc (.lconst n) 1 pc') (kk : W p l e R s m args below meth c H locs cells slots Q (F0 m pc' ls (.long v :: rest))) : W p l e R s m args below meth c H locs cells slots Q (F0 m pc ls (rest)) := by
  obtain ⟨d1, rfl⟩ := d
  exact lv_lconst C.1 C.2.1 d1 hv kk
theorem r_dconst0 (C : Cx G own cc nL ret p s m args meth c) (d : Dc cc pc (.dconst 0) 1 pc') (kk : W p l e R s m args below meth c H locs cells slots Q (F0 m pc' ls (.double FP.dconst0 :: rest))) : W p l e R s m args below meth c H locs cells slots Q (F0 m pc ls (rest)) := by
  obtain ⟨d1, rfl⟩ := d
  exact lv_dconst0 C.1 C.2.1 d1 kk
theorem r_dconst1 (C : Cx G own cc nL ret p s m args meth c) (d : Dc cc pc (.dconst 1) 1 pc') (kk : W p l e R s m args below meth c H locs cells slots Q (F0 m pc' ls (.double FP.dconst1 :: rest))) : W p l e R s m args below meth c H locs cells slots Q (F0 m pc ls (rest)) := by
  obtain ⟨d1, rfl⟩ := d
  exact lv_dconst1 C.1 C.2.1 d1 kk
theorem r_ldc (C : Cx G own cc nL ret p s m args meth c) {idx : Nat} {v : Int32} (hw : Cond.constant own idx v ∈ WT) (d : Dc cc pc (.ldc idx) 2 pc') (kk : W p l e R s m args below meth c H locs cells slots Q (F0 m pc' ls (.int v :: rest))) : W p l e R s m args below meth c H locs cells slots Q (F0 m pc ls (rest)) := by
  obtain ⟨d1, rfl⟩ := d
  exact lv_ldc C.1 C.2.1 C.2.2.2.2.1 (C.2.2.2.2.2.1 _ hw) d1 kk
theorem r_ldcw (C : Cx G own cc nL ret p s m args meth c) {idx : Nat} {v : Int32} (hw : Cond.constant own idx v ∈ WT) (d : Dc cc pc (.ldc_w idx) 3 pc') (kk : W p l e R s m args below meth c H locs cells slots Q (F0 m pc' ls (.int v :: rest))) : W p l e R s m args below meth c H locs cells slots Q (F0 m pc ls (rest)) := by
  obtain ⟨d1, rfl⟩ := d
  exact lv_ldcw C.1 C.2.1 C.2.2.2.2.1 (C.2.2.2.2.2.1 _ hw) d1 kk
theorem r_ldc2 (C : Cx G own cc nL ret p s m args meth c) {idx : Nat} {v : Int64} (hw : Cond.constantLong own idx v ∈ WT) (d : Dc cc pc (.ldc2_w idx) 3 pc') (kk : W p l e R s m args below meth c H locs cells slots Q (F0 m pc' ls (.long v :: rest))) : W p l e R s m args below meth c H locs cells slots Q (F0 m pc ls (rest)) := by
  obtain ⟨d1, rfl⟩ := d
  exact lv_ldc2 C.1 C.2.1 C.2.2.2.2.1 (C.2.2.2.2.2.1 _ hw) d1 kk
theorem r_ldc2d (C : Cx G own cc nL ret p s m args meth c) {idx : Nat} {v : UInt64} (hw : Cond.constantDouble own idx v ∈ WT) (d : Dc cc pc (.ldc2_w idx) 3 pc') (kk : W p l e R s m args below meth c H locs cells slots Q (F0 m pc' ls (.double v :: rest))) : W p l e R s m args below meth c H locs cells slots Q (F0 m pc ls (rest)) := by
  obtain ⟨d1, rfl⟩ := d
  exact lv_ldc2d C.1 C.2.1 C.2.2.2.2.1 (C.2.2.2.2.2.1 _ hw) d1 kk
theorem r_iload_n (C : Cx G own cc nL ret p s m args meth c) {k : Fin 4} {lv : List (Nat × Value)} (hl : lv_has ls nL lv) (j : Nat) {i : Nat} {x : Int32} (hj : lv[j]? = some (i, Value.int x)) (hi : (k : Nat) = i) (d : Dc cc pc (.iload_n k) 1 pc') (kk : W p l e R s m args below meth c H locs cells slots Q (F0 m pc' ls (.int x :: rest))) : W p l e R s m args below meth c H locs cells slots Q (F0 m pc ls (rest)) := by
  obtain ⟨d1, rfl⟩ := d
  exact lv_iload_n C.1 C.2.1 d1 hi (lv_at hl j hj) kk
theorem r_iload (C : Cx G own cc nL ret p s m args meth c) {lv : List (Nat × Value)} (hl : lv_has ls nL lv) (j : Nat) {i : Nat} {x : Int32} (hj : lv[j]? = some (i, Value.int x)) (d : Dc cc pc (.iload i) 2 pc') (kk : W p l e R s m args below meth c H locs cells slots Q (F0 m pc' ls (.int x :: rest))) : W p l e R s m args below meth c H locs cells slots Q (F0 m pc ls (rest)) := by
  obtain ⟨d1, rfl⟩ := d
  exact lv_iload C.1 C.2.1 d1 (lv_at hl j hj) kk
theorem r_istore_n (C : Cx G own cc nL ret p s m args meth c) {k : Fin 4} {lv : List (Nat × Value)} (lv' : List (Nat × Value)) {i : Nat} {x : Int32} (hl : lv_has ls nL lv) (hn : i < nL) (hv : (i, Value.int x) :: lv.filter (fun q => !(q.1 == i) && !(q.1 + 1 == i && q.2.category == 2)) = lv') (hi : (k : Nat) = i) (d : Dc cc pc (.istore_n k) 1 pc') (kk : ∀ ls' : Array Slot, lv_has ls' nL lv' → W p l e R s m args below meth c H locs cells slots Q (F0 m pc' ls' rest)) : W p l e R s m args below meth c H locs cells slots Q (F0 m pc ls (.int x :: rest)) := by
  obtain ⟨d1, rfl⟩ := d
  exact lv_istore_n C.1 C.2.1 d1 hi hl hn hv kk
theorem r_istore (C : Cx G own cc nL ret p s m args meth c) {lv : List (Nat × Value)} (lv' : List (Nat × Value)) {i : Nat} {x : Int32} (hl : lv_has ls nL lv) (hn : i < nL) (hv : (i, Value.int x) :: lv.filter (fun q => !(q.1 == i) && !(q.1 + 1 == i && q.2.category == 2)) = lv') (d : Dc cc pc (.istore i) 2 pc') (kk : ∀ ls' : Array Slot, lv_has ls' nL lv' → W p l e R s m args below meth c H locs cells slots Q (F0 m pc' ls' rest)) : W p l e R s m args below meth c H locs cells slots Q (F0 m pc ls (.int x :: rest)) := by
  obtain ⟨d1, rfl⟩ := d
  exact lv_istore C.1 C.2.1 d1 hl hn hv kk
theorem r_lload_n (C : Cx G own cc nL ret p s m args meth c) {k : Fin 4} {lv : List (Nat × Value)} (hl : lv_has ls nL lv) (j : Nat) {i : Nat} {x : Int64} (hj : lv[j]? = some (i, Value.long x)) (hi : (k : Nat) = i) (d : Dc cc pc (.lload_n k) 1 pc') (kk : W p l e R s m args below meth c H locs cells slots Q (F0 m pc' ls (.long x :: rest))) : W p l e R s m args below meth c H locs cells slots Q (F0 m pc ls (rest)) := by
  obtain ⟨d1, rfl⟩ := d
  exact lv_lload_n C.1 C.2.1 d1 hi (lv_at hl j hj) kk
theorem r_lload (C : Cx G own cc nL ret p s m args meth c) {lv : List (Nat × Value)} (hl : lv_has ls nL lv) (j : Nat) {i : Nat} {x : Int64} (hj : lv[j]? = some (i, Value.long x)) (d : Dc cc pc (.lload i) 2 pc') (kk : W p l e R s m args below meth c H locs cells slots Q (F0 m pc' ls (.long x :: rest))) : W p l e R s m args below meth c H locs cells slots Q (F0 m pc ls (rest)) := by
  obtain ⟨d1, rfl⟩ := d
  exact lv_lload C.1 C.2.1 d1 (lv_at hl j hj) kk
theorem r_lstore_n (C : Cx G own cc nL ret p s m args meth c) {k : Fin 4} {lv : List (Nat × Value)} (lv' : List (Nat × Value)) {i : Nat} {x : Int64} (hl : lv_has ls nL lv) (hn : i + 1 < nL) (hv : (i, Value.long x) :: lv.filter (fun q => !(q.1 == i) && (!(q.1 == i + 1) && !(q.1 + 1 == i && q.2.category == 2))) = lv') (hi : (k : Nat) = i) (d : Dc cc pc (.lstore_n k) 1 pc') (kk : ∀ ls' : Array Slot, lv_has ls' nL lv' → W p l e R s m args below meth c H locs cells slots Q (F0 m pc' ls' rest)) : W p l e R s m args below meth c H locs cells slots Q (F0 m pc ls (.long x :: rest)) := by
  obtain ⟨d1, rfl⟩ := d
  exact lv_lstore_n C.1 C.2.1 d1 hi hl hn hv kk
theorem r_lstore (C : Cx G own cc nL ret p s m args meth c) {lv : List (Nat × Value)} (lv' : List (Nat × Value)) {i : Nat} {x : Int64} (hl : lv_has ls nL lv) (hn : i + 1 < nL) (hv : (i, Value.long x) :: lv.filter (fun q => !(q.1 == i) && (!(q.1 == i + 1) && !(q.1 + 1 == i && q.2.category == 2))) = lv') (d : Dc cc pc (.lstore i) 2 pc') (kk : ∀ ls' : Array Slot, lv_has ls' nL lv' → W p l e R s m args below meth c H locs cells slots Q (F0 m pc' ls' rest)) : W p l e R s m args below meth c H locs cells slots Q (F0 m pc ls (.long x :: rest)) := by
  obtain ⟨d1, rfl⟩ := d
  exact lv_lstore C.1 C.2.1 d1 hl hn hv kk
theorem r_dload_n (C : Cx G own cc nL ret p s m args meth c) {k : Fin 4} {lv : List (Nat × Value)} (hl : lv_has ls nL lv) (j : Nat) {i : Nat} {x : UInt64} (hj : lv[j]? = some (i, Value.double x)) (hi : (k : Nat) = i) (d : Dc cc pc (.dload_n k) 1 pc') (kk : W p l e R s m args below meth c H locs cells slots Q (F0 m pc' ls (.double x :: rest))) : W p l e R s m args below meth c H locs cells slots Q (F0 m pc ls (rest)) := by
  obtain ⟨d1, rfl⟩ := d
  exact lv_dload_n C.1 C.2.1 d1 hi (lv_at hl j hj) kk
theorem r_dload (C : Cx G own cc nL ret p s m args meth c) {lv : List (Nat × Value)} (hl : lv_has ls nL lv) (j : Nat) {i : Nat} {x : UInt64} (hj : lv[j]? = some (i, Value.double x)) (d : Dc cc pc (.dload i) 2 pc') (kk : W p l e R s m args below meth c H locs cells slots Q (F0 m pc' ls (.double x :: rest))) : W p l e R s m args below meth c H locs cells slots Q (F0 m pc ls (rest)) := by
  obtain ⟨d1, rfl⟩ := d
  exact lv_dload C.1 C.2.1 d1 (lv_at hl j hj) kk
theorem r_dstore_n (C : Cx G own cc nL ret p s m args meth c) {k : Fin 4} {lv : List (Nat × Value)} (lv' : List (Nat × Value)) {i : Nat} {x : UInt64} (hl : lv_has ls nL lv) (hn : i + 1 < nL) (hv : (i, Value.double x) :: lv.filter (fun q => !(q.1 == i) && (!(q.1 == i + 1) && !(q.1 + 1 == i && q.2.category == 2))) = lv') (hi : (k : Nat) = i) (d : Dc cc pc (.dstore_n k) 1 pc') (kk : ∀ ls' : Array Slot, lv_has ls' nL lv' → W p l e R s m args below meth c H locs cells slots Q (F0 m pc' ls' rest)) : W p l e R s m args below meth c H locs cells slots Q (F0 m pc ls (.double x :: rest)) := by
  obtain ⟨d1, rfl⟩ := d
  exact lv_dstore_n C.1 C.2.1 d1 hi hl hn hv kk
theorem r_dstore (C : Cx G own cc nL ret p s m args meth c) {lv : List (Nat × Value)} (lv' : List (Nat × Value)) {i : Nat} {x : UInt64} (hl : lv_has ls nL lv) (hn : i + 1 < nL) (hv : (i, Value.double x) :: lv.filter (fun q => !(q.1 == i) && (!(q.1 == i + 1) && !(q.1 + 1 == i && q.2.category == 2))) = lv') (d : Dc cc pc (.dstore i) 2 pc') (kk : ∀ ls' : Array Slot, lv_has ls' nL lv' → W p l e R s m args below meth c H locs cells slots Q (F0 m pc' ls' rest)) : W p l e R s m args below meth c H locs cells slots Q (F0 m pc ls (.double x :: rest)) := by
  obtain ⟨d1, rfl⟩ := d
  exact lv_dstore C.1 C.2.1 d1 hl hn hv kk
theorem r_aload_n (C : Cx G own cc nL ret p s m args meth c) {k : Fin 4} {lv : List (Nat × Value)} (hl : lv_has ls nL lv) (j : Nat) {i : Nat} {x : Nat} (hj : lv[j]? = some (i, Value.ref x)) (hi : (k : Nat) = i) (d : Dc cc pc (.aload_n k) 1 pc') (kk : W p l e R s m args below meth c H locs cells slots Q (F0 m pc' ls (.ref x :: rest))) : W p l e R s m args below meth c H locs cells slots Q (F0 m pc ls (rest)) := by
  obtain ⟨d1, rfl⟩ := d
  exact lv_aload_n C.1 C.2.1 d1 hi (lv_at hl j hj) kk
theorem r_aload (C : Cx G own cc nL ret p s m args meth c) {lv : List (Nat × Value)} (hl : lv_has ls nL lv) (j : Nat) {i : Nat} {x : Nat} (hj : lv[j]? = some (i, Value.ref x)) (d : Dc cc pc (.aload i) 2 pc') (kk : W p l e R s m args below meth c H locs cells slots Q (F0 m pc' ls (.ref x :: rest))) : W p l e R s m args below meth c H locs cells slots Q (F0 m pc ls (rest)) := by
  obtain ⟨d1, rfl⟩ := d
  exact lv_aload C.1 C.2.1 d1 (lv_at hl j hj) kk
theorem r_astore_n (C : Cx G own cc nL ret p s m args meth c) {k : Fin 4} {lv : List (Nat × Value)} (lv' : List (Nat × Value)) {i : Nat} {x : Nat} (hl : lv_has ls nL lv) (hn : i < nL) (hv : (i, Value.ref x) :: lv.filter (fun q => !(q.1 == i) && !(q.1 + 1 == i && q.2.category == 2)) = lv') (hi : (k : Nat) = i) (d : Dc cc pc (.astore_n k) 1 pc') (kk : ∀ ls' : Array Slot, lv_has ls' nL lv' → W p l e R s m args below meth c H locs cells slots Q (F0 m pc' ls' rest)) : W p l e R s m args below meth c H locs cells slots Q (F0 m pc ls (.ref x :: rest)) := by
  obtain ⟨d1, rfl⟩ := d
  exact lv_astore_n C.1 C.2.1 d1 hi hl hn hv kk
theorem r_astore (C : Cx G own cc nL ret p s m args meth c) {lv : List (Nat × Value)} (lv' : List (Nat × Value)) {i : Nat} {x : Nat} (hl : lv_has ls nL lv) (hn : i < nL) (hv : (i, Value.ref x) :: lv.filter (fun q => !(q.1 == i) && !(q.1 + 1 == i && q.2.category == 2)) = lv') (d : Dc cc pc (.astore i) 2 pc') (kk : ∀ ls' : Array Slot, lv_has ls' nL lv' → W p l e R s m args below meth c H locs cells slots Q (F0 m pc' ls' rest)) : W p l e R s m args below meth c H locs cells slots Q (F0 m pc ls (.ref x :: rest)) := by
  obtain ⟨d1, rfl⟩ := d
  exact lv_astore C.1 C.2.1 d1 hl hn hv kk
theorem r_iinc (C : Cx G own cc nL ret p s m args meth c) {lv : List (Nat × Value)} (lv' : Int32 → List (Nat × Value)) {i : Nat} {n : Int} {x w : Int32} (j : Nat) (hl : lv_has ls nL lv) (hj : lv[j]? = some (i, .int x)) (hw : Int32.ofInt n = w) (hn : i < nL) (hv : ∀ y, (i, Value.int y) :: lv.filter (fun q => !(q.1 == i) && !(q.1 + 1 == i && q.2.category == 2)) = lv' y) (d : Dc cc pc (.iinc i n) 3 pc') {β : Type} {K : Int32 → β} {z : β} (hf : bd (x + w) K = z) (kk : ∀ y (ls' : Array Slot), lv_has ls' nL (lv' y) → K y = z → W p l e R s m args below meth c H locs cells slots Q (F0 m pc' ls' rest)) : W p l e R s m args below meth c H locs cells slots Q (F0 m pc ls rest) := by
  obtain ⟨d1, rfl⟩ := d
  exact lv_iinc (v := x + w) C.1 C.2.1 d1 hl hj (by rw [hw]) hn (hv _) (fun ls' h => kk _ ls' h hf)
theorem r_bdi {x : Int32} {β : Type} {K : Int32 → β} {z : β} (hf : bd x K = z) (kk : ∀ y : Int32, K y = z → W p l e R s m args below meth c H locs cells slots Q (F0 m pc ls (.int y :: rest))) : W p l e R s m args below meth c H locs cells slots Q (F0 m pc ls (.int x :: rest)) := kk x hf
theorem r_bdl {x : Int64} {β : Type} {K : Int64 → β} {z : β} (hf : bd x K = z) (kk : ∀ y : Int64, K y = z → W p l e R s m args below meth c H locs cells slots Q (F0 m pc ls (.long y :: rest))) : W p l e R s m args below meth c H locs cells slots Q (F0 m pc ls (.long x :: rest)) := kk x hf
theorem r_bdd {x : UInt64} {β : Type} {K : UInt64 → β} {z : β} (hf : bd x K = z) (kk : ∀ y : UInt64, K y = z → W p l e R s m args below meth c H locs cells slots Q (F0 m pc ls (.double y :: rest))) : W p l e R s m args below meth c H locs cells slots Q (F0 m pc ls (.double x :: rest)) := kk x hf
theorem r_iadd2 (C : Cx G own cc nL ret p s m args meth c) {x y : Int32} (d : Dc cc pc .iadd 1 pc') (kk : W p l e R s m args below meth c H locs cells slots Q (F0 m pc' ls (.int (x + y) :: rest))) : W p l e R s m args below meth c H locs cells slots Q (F0 m pc ls (.int y :: .int x :: rest)) := by
  obtain ⟨d1, rfl⟩ := d
  exact lv_iadd C.1 C.2.1 d1 kk
theorem r_isub (C : Cx G own cc nL ret p s m args meth c) {x y : Int32} (d : Dc cc pc .isub 1 pc') (kk : W p l e R s m args below meth c H locs cells slots Q (F0 m pc' ls (.int (x - y) :: rest))) : W p l e R s m args below meth c H locs cells slots Q (F0 m pc ls (.int y :: .int x :: rest)) := by
  obtain ⟨d1, rfl⟩ := d
  exact lv_isub C.1 C.2.1 d1 kk
theorem r_imul (C : Cx G own cc nL ret p s m args meth c) {x y : Int32} (d : Dc cc pc .imul 1 pc') (kk : W p l e R s m args below meth c H locs cells slots Q (F0 m pc' ls (.int (x * y) :: rest))) : W p l e R s m args below meth c H locs cells slots Q (F0 m pc ls (.int y :: .int x :: rest)) := by
  obtain ⟨d1, rfl⟩ := d
  exact lv_imul C.1 C.2.1 d1 kk
theorem r_iand (C : Cx G own cc nL ret p s m args meth c) {x y : Int32} (d : Dc cc pc .iand 1 pc') (kk : W p l e R s m args below meth c H locs cells slots Q (F0 m pc' ls (.int (x &&& y) :: rest))) : W p l e R s m args below meth c H locs cells slots Q (F0 m pc ls (.int y :: .int x :: rest)) := by
  obtain ⟨d1, rfl⟩ := d
  exact lv_iand C.1 C.2.1 d1 kk
theorem r_ineg (C : Cx G own cc nL ret p s m args meth c) {x : Int32} (d : Dc cc pc .ineg 1 pc') (kk : W p l e R s m args below meth c H locs cells slots Q (F0 m pc' ls (.int (-x) :: rest))) : W p l e R s m args below meth c H locs cells slots Q (F0 m pc ls (.int x :: rest)) := by
  obtain ⟨d1, rfl⟩ := d
  exact lv_ineg C.1 C.2.1 d1 kk
theorem r_ixor (C : Cx G own cc nL ret p s m args meth c) {x y : Int32} (d : Dc cc pc .ixor 1 pc') (kk : W p l e R s m args below meth c H locs cells slots Q (F0 m pc' ls (.int (x ^^^ y) :: rest))) : W p l e R s m args below meth c H locs cells slots Q (F0 m pc ls (.int y :: .int x :: rest)) := by
  obtain ⟨d1, rfl⟩ := d
  exact lv_ixor C.1 C.2.1 d1 kk
theorem r_idiv (C : Cx G own cc nL ret p s m args meth c) {x y : Int32} (d : Dc cc pc .idiv 1 pc') {α : Type} {K : Option α} {z : α} (hf : grd (decide (¬ y = 0)) K = some z) (kk : K = some z → W p l e R s m args below meth c H locs cells slots Q (F0 m pc' ls (.int (x / y) :: rest))) : W p l e R s m args below meth c H locs cells slots Q (F0 m pc ls (.int y :: .int x :: rest)) := by
  obtain ⟨d1, rfl⟩ := d
  obtain ⟨g1, g2⟩ := grd_s hf
  exact lv_idiv C.1 C.2.1 d1 (of_decide_eq_true g1) (kk g2)
theorem r_irem (C : Cx G own cc nL ret p s m args meth c) {x y : Int32} (d : Dc cc pc .irem 1 pc') {α : Type} {K : Option α} {z : α} (hf : grd (decide (¬ y = 0)) K = some z) (kk : K = some z → W p l e R s m args below meth c H locs cells slots Q (F0 m pc' ls (.int (x - x / y * y) :: rest))) : W p l e R s m args below meth c H locs cells slots Q (F0 m pc ls (.int y :: .int x :: rest)) := by
  obtain ⟨d1, rfl⟩ := d
  obtain ⟨g1, g2⟩ := grd_s hf
  exact lv_irem C.1 C.2.1 d1 (of_decide_eq_true g1) (kk g2)
theorem r_ladd (C : Cx G own cc nL ret p s m args meth c) {x y : Int64} (d : Dc cc pc .ladd 1 pc') (kk : W p l e R s m args below meth c H locs cells slots Q (F0 m pc' ls (.long (x + y) :: rest))) : W p l e R s m args below meth c H locs cells slots Q (F0 m pc ls (.long y :: .long x :: rest)) := by
  obtain ⟨d1, rfl⟩ := d
  exact lv_ladd C.1 C.2.1 d1 kk
theorem r_lsub (C : Cx G own cc nL ret p s m args meth c) {x y : Int64} (d : Dc cc pc .lsub 1 pc') (kk : W p l e R s m args below meth c H locs cells slots Q (F0 m pc' ls (.long (x - y) :: rest))) : W p l e R s m args below meth c H locs cells slots Q (F0 m pc ls (.long y :: .long x :: rest)) := by
  obtain ⟨d1, rfl⟩ := d
  exact lv_lsub C.1 C.2.1 d1 kk
theorem r_lmul (C : Cx G own cc nL ret p s m args meth c) {x y : Int64} (d : Dc cc pc .lmul 1 pc') (kk : W p l e R s m args below meth c H locs cells slots Q (F0 m pc' ls (.long (x * y) :: rest))) : W p l e R s m args below meth c H locs cells slots Q (F0 m pc ls (.long y :: .long x :: rest)) := by
  obtain ⟨d1, rfl⟩ := d
  exact lv_lmul C.1 C.2.1 d1 kk
theorem r_lshl (C : Cx G own cc nL ret p s m args meth c) {x : Int64} {y : Int32} (d : Dc cc pc .lshl 1 pc') (kk : W p l e R s m args below meth c H locs cells slots Q (F0 m pc' ls (.long (x <<< (y.toInt64 &&& 63)) :: rest))) : W p l e R s m args below meth c H locs cells slots Q (F0 m pc ls (.int y :: .long x :: rest)) := by
  obtain ⟨d1, rfl⟩ := d
  exact lv_lshl C.1 C.2.1 d1 rfl kk
theorem r_i2l (C : Cx G own cc nL ret p s m args meth c) {x : Int32} (d : Dc cc pc .i2l 1 pc') (kk : W p l e R s m args below meth c H locs cells slots Q (F0 m pc' ls (.long x.toInt64 :: rest))) : W p l e R s m args below meth c H locs cells slots Q (F0 m pc ls (.int x :: rest)) := by
  obtain ⟨d1, rfl⟩ := d
  exact lv_i2l C.1 C.2.1 d1 rfl kk
theorem r_i2c (C : Cx G own cc nL ret p s m args meth c) {x : Int32} (d : Dc cc pc .i2c 1 pc') (kk : W p l e R s m args below meth c H locs cells slots Q (F0 m pc' ls (.int (x.toUInt32 % 65536).toInt32 :: rest))) : W p l e R s m args below meth c H locs cells slots Q (F0 m pc ls (.int x :: rest)) := by
  obtain ⟨d1, rfl⟩ := d
  exact lv_i2c C.1 C.2.1 d1 rfl kk
theorem r_i2d (C : Cx G own cc nL ret p s m args meth c) {x : Int32} (d : Dc cc pc .i2d 1 pc') (kk : W p l e R s m args below meth c H locs cells slots Q (F0 m pc' ls (.double (FP.i2d x) :: rest))) : W p l e R s m args below meth c H locs cells slots Q (F0 m pc ls (.int x :: rest)) := by
  obtain ⟨d1, rfl⟩ := d
  exact lv_i2d C.1 C.2.1 d1 kk
theorem r_d2l (C : Cx G own cc nL ret p s m args meth c) {x : UInt64} (d : Dc cc pc .d2l 1 pc') (kk : W p l e R s m args below meth c H locs cells slots Q (F0 m pc' ls (.long (FP.d2l x) :: rest))) : W p l e R s m args below meth c H locs cells slots Q (F0 m pc ls (.double x :: rest)) := by
  obtain ⟨d1, rfl⟩ := d
  exact lv_d2l C.1 C.2.1 d1 kk
def n64 (x : UInt64) : Bool := decide (x &&& 0x7fffffffffffffff ≤ 0x7ff0000000000000)
theorem r_ddiv (C : Cx G own cc nL ret p s m args meth c) {x y : UInt64} (d : Dc cc pc .ddiv 1 pc') {α : Type} {K : UInt64 → Option α} {z : α} (hf : bd (FP.ddiv x y) (fun w => grd (n64 w) (K w)) = some z) (kk : ∀ w, K w = some z → W p l e R s m args below meth c H locs cells slots Q (F0 m pc' ls (.double w :: rest))) : W p l e R s m args below meth c H locs cells slots Q (F0 m pc ls (.double y :: .double x :: rest)) := by
  obtain ⟨d1, rfl⟩ := d
  obtain ⟨g1, g2⟩ := grd_s hf
  exact lv_ddiv C.1 C.2.1 d1 (by unfold vf_n64; exact of_decide_eq_true g1) (kk _ g2)
theorem r_dmul (C : Cx G own cc nL ret p s m args meth c) {x y : UInt64} (d : Dc cc pc .dmul 1 pc') {α : Type} {K : UInt64 → Option α} {z : α} (hf : bd (FP.dmul x y) (fun w => grd (n64 w) (K w)) = some z) (kk : ∀ w, K w = some z → W p l e R s m args below meth c H locs cells slots Q (F0 m pc' ls (.double w :: rest))) : W p l e R s m args below meth c H locs cells slots Q (F0 m pc ls (.double y :: .double x :: rest)) := by
  obtain ⟨d1, rfl⟩ := d
  obtain ⟨g1, g2⟩ := grd_s hf
  exact lv_dmul C.1 C.2.1 d1 (by unfold vf_n64; exact of_decide_eq_true g1) (kk _ g2)
theorem r_dsub (C : Cx G own cc nL ret p s m args meth c) {x y : UInt64} (d : Dc cc pc .dsub 1 pc') {α : Type} {K : UInt64 → Option α} {z : α} (hf : bd (FP.dsub x y) (fun w => grd (n64 w) (K w)) = some z) (kk : ∀ w, K w = some z → W p l e R s m args below meth c H locs cells slots Q (F0 m pc' ls (.double w :: rest))) : W p l e R s m args below meth c H locs cells slots Q (F0 m pc ls (.double y :: .double x :: rest)) := by
  obtain ⟨d1, rfl⟩ := d
  obtain ⟨g1, g2⟩ := grd_s hf
  exact lv_dsub C.1 C.2.1 d1 (by unfold vf_n64; exact of_decide_eq_true g1) (kk _ g2)
theorem r_dcmp (C : Cx G own cc nL ret p s m args meth c) {x y : UInt64} {op : CmpOp} (d : Dc cc pc (.dcmp op) 1 pc') (kk : W p l e R s m args below meth c H locs cells slots Q (F0 m pc' ls (.int (Op.cmpValue (FP.dcmp x y) op) :: rest))) : W p l e R s m args below meth c H locs cells slots Q (F0 m pc ls (.double y :: .double x :: rest)) := by
  obtain ⟨d1, rfl⟩ := d
  exact lv_dcmp C.1 C.2.1 d1 kk
theorem r_lcmp (C : Cx G own cc nL ret p s m args meth c) {x y : Int64} (d : Dc cc pc .lcmp 1 pc') (kk : W p l e R s m args below meth c H locs cells slots Q (F0 m pc' ls (.int (lg_cmp x y) :: rest))) : W p l e R s m args below meth c H locs cells slots Q (F0 m pc ls (.long y :: .long x :: rest)) := by
  obtain ⟨d1, rfl⟩ := d
  exact W.lcmp C.1 C.2.1 d1 kk
theorem r_dup (C : Cx G own cc nL ret p s m args meth c) {v : Value} (hv : v.category = 1) (d : Dc cc pc .dup 1 pc') (kk : W p l e R s m args below meth c H locs cells slots Q (F0 m pc' ls (v :: v :: rest))) : W p l e R s m args below meth c H locs cells slots Q (F0 m pc ls (v :: rest)) := by
  obtain ⟨d1, rfl⟩ := d
  exact lv_dup C.1 C.2.1 d1 hv kk
theorem r_pop (C : Cx G own cc nL ret p s m args meth c) {v : Value} (hv : v.category = 1) (d : Dc cc pc .pop 1 pc') (kk : W p l e R s m args below meth c H locs cells slots Q (F0 m pc' ls (rest))) : W p l e R s m args below meth c H locs cells slots Q (F0 m pc ls (v :: rest)) := by
  obtain ⟨d1, rfl⟩ := d
  exact lv_pop C.1 C.2.1 d1 hv kk
theorem r_dup2 (C : Cx G own cc nL ret p s m args meth c) {v w : Value} (hv : v.category = 1) (hw : w.category = 1) (d : Dc cc pc .dup2 1 pc') (kk : W p l e R s m args below meth c H locs cells slots Q (F0 m pc' ls (v :: w :: v :: w :: rest))) : W p l e R s m args below meth c H locs cells slots Q (F0 m pc ls (v :: w :: rest)) := by
  obtain ⟨d1, rfl⟩ := d
  exact lv_dup2_11 C.1 C.2.1 d1 hv hw kk
theorem r_dupx1 (C : Cx G own cc nL ret p s m args meth c) {v w : Value} (hv : v.category = 1) (hw : w.category = 1) (d : Dc cc pc .dup_x1 1 pc') (kk : W p l e R s m args below meth c H locs cells slots Q (F0 m pc' ls (v :: w :: v :: rest))) : W p l e R s m args below meth c H locs cells slots Q (F0 m pc ls (v :: w :: rest)) := by
  obtain ⟨d1, rfl⟩ := d
  exact lv_dup_x1 C.1 C.2.1 d1 hv hw kk
theorem r_goto (C : Cx G own cc nL ret p s m args meth c) {off : Int} {tgt : Nat} (d : Dj cc pc (.goto off) 3 pc' off tgt) (kk : W p l e R s m args below meth c H locs cells slots Q (F0 m tgt ls rest)) : W p l e R s m args below meth c H locs cells slots Q (F0 m pc ls rest) := by
  obtain ⟨d1, d2, d3⟩ := d
  exact lv_goto C.1 C.2.1 d1 d3 kk
theorem r_if_eq (C : Cx G own cc nL ret p s m args meth c) {x : Int32} {off : Int} {tgt : Nat} (d : Dj cc pc (.ifCond .eq off) 3 pc' off tgt) {α : Type} {A B : α} {z : α} (hf : (if x = 0 then A else B) = z) (kt : A = z → W p l e R s m args below meth c H locs cells slots Q (F0 m tgt ls rest)) (kf : B = z → W p l e R s m args below meth c H locs cells slots Q (F0 m pc' ls rest)) : W p l e R s m args below meth c H locs cells slots Q (F0 m pc ls (.int x :: rest)) := by
  obtain ⟨d1, rfl, d3⟩ := d
  exact lv_if_eq C.1 C.2.1 d1 d3 (fun hc => kt (ite_y hf hc)) (fun hc => kf (ite_n hf hc))
theorem r_if_ne (C : Cx G own cc nL ret p s m args meth c) {x : Int32} {off : Int} {tgt : Nat} (d : Dj cc pc (.ifCond .ne off) 3 pc' off tgt) {α : Type} {A B : α} {z : α} (hf : (if x = 0 then A else B) = z) (kt : B = z → W p l e R s m args below meth c H locs cells slots Q (F0 m tgt ls rest)) (kf : A = z → W p l e R s m args below meth c H locs cells slots Q (F0 m pc' ls rest)) : W p l e R s m args below meth c H locs cells slots Q (F0 m pc ls (.int x :: rest)) := by
  obtain ⟨d1, rfl, d3⟩ := d
  exact lv_if_ne C.1 C.2.1 d1 d3 (fun hc => kt (ite_n hf hc)) (fun hc => kf (ite_y hf hc))
theorem r_if_lt (C : Cx G own cc nL ret p s m args meth c) {x : Int32} {off : Int} {tgt : Nat} (d : Dj cc pc (.ifCond .lt off) 3 pc' off tgt) {α : Type} {A B : α} {z : α} (hf : (if x < 0 then A else B) = z) (kt : A = z → W p l e R s m args below meth c H locs cells slots Q (F0 m tgt ls rest)) (kf : B = z → W p l e R s m args below meth c H locs cells slots Q (F0 m pc' ls rest)) : W p l e R s m args below meth c H locs cells slots Q (F0 m pc ls (.int x :: rest)) := by
  obtain ⟨d1, rfl, d3⟩ := d
  exact lv_if_lt C.1 C.2.1 d1 d3 (fun hc => kt (ite_y hf hc)) (fun hc => kf (ite_n hf hc))
theorem r_if_ge (C : Cx G own cc nL ret p s m args meth c) {x : Int32} {off : Int} {tgt : Nat} (d : Dj cc pc (.ifCond .ge off) 3 pc' off tgt) {α : Type} {A B : α} {z : α} (hf : (if 0 ≤ x then A else B) = z) (kt : A = z → W p l e R s m args below meth c H locs cells slots Q (F0 m tgt ls rest)) (kf : B = z → W p l e R s m args below meth c H locs cells slots Q (F0 m pc' ls rest)) : W p l e R s m args below meth c H locs cells slots Q (F0 m pc ls (.int x :: rest)) := by
  obtain ⟨d1, rfl, d3⟩ := d
  exact lv_if_ge C.1 C.2.1 d1 d3 (fun hc => kt (ite_y hf hc)) (fun hc => kf (ite_n hf hc))
theorem r_if_gt (C : Cx G own cc nL ret p s m args meth c) {x : Int32} {off : Int} {tgt : Nat} (d : Dj cc pc (.ifCond .gt off) 3 pc' off tgt) {α : Type} {A B : α} {z : α} (hf : (if 0 < x then A else B) = z) (kt : A = z → W p l e R s m args below meth c H locs cells slots Q (F0 m tgt ls rest)) (kf : B = z → W p l e R s m args below meth c H locs cells slots Q (F0 m pc' ls rest)) : W p l e R s m args below meth c H locs cells slots Q (F0 m pc ls (.int x :: rest)) := by
  obtain ⟨d1, rfl, d3⟩ := d
  exact lv_if_gt C.1 C.2.1 d1 d3 (fun hc => kt (ite_y hf hc)) (fun hc => kf (ite_n hf hc))
theorem r_if_le (C : Cx G own cc nL ret p s m args meth c) {x : Int32} {off : Int} {tgt : Nat} (d : Dj cc pc (.ifCond .le off) 3 pc' off tgt) {α : Type} {A B : α} {z : α} (hf : (if x ≤ 0 then A else B) = z) (kt : A = z → W p l e R s m args below meth c H locs cells slots Q (F0 m tgt ls rest)) (kf : B = z → W p l e R s m args below meth c H locs cells slots Q (F0 m pc' ls rest)) : W p l e R s m args below meth c H locs cells slots Q (F0 m pc ls (.int x :: rest)) := by
  obtain ⟨d1, rfl, d3⟩ := d
  exact lv_if_le C.1 C.2.1 d1 d3 (fun hc => kt (ite_y hf hc)) (fun hc => kf (ite_n hf hc))
theorem r_icmp_eq (C : Cx G own cc nL ret p s m args meth c) {x y : Int32} {off : Int} {tgt : Nat} (d : Dj cc pc (.if_icmp .eq off) 3 pc' off tgt) {α : Type} {A B : α} {z : α} (hf : (if x = y then A else B) = z) (kt : A = z → W p l e R s m args below meth c H locs cells slots Q (F0 m tgt ls rest)) (kf : B = z → W p l e R s m args below meth c H locs cells slots Q (F0 m pc' ls rest)) : W p l e R s m args below meth c H locs cells slots Q (F0 m pc ls (.int y :: .int x :: rest)) := by
  obtain ⟨d1, rfl, d3⟩ := d
  exact lv_icmp_eq C.1 C.2.1 d1 d3 (fun hc => kt (ite_y hf hc)) (fun hc => kf (ite_n hf hc))
theorem r_icmp_ne (C : Cx G own cc nL ret p s m args meth c) {x y : Int32} {off : Int} {tgt : Nat} (d : Dj cc pc (.if_icmp .ne off) 3 pc' off tgt) {α : Type} {A B : α} {z : α} (hf : (if x = y then A else B) = z) (kt : B = z → W p l e R s m args below meth c H locs cells slots Q (F0 m tgt ls rest)) (kf : A = z → W p l e R s m args below meth c H locs cells slots Q (F0 m pc' ls rest)) : W p l e R s m args below meth c H locs cells slots Q (F0 m pc ls (.int y :: .int x :: rest)) := by
  obtain ⟨d1, rfl, d3⟩ := d
  exact lv_icmp_ne C.1 C.2.1 d1 d3 (fun hc => kt (ite_n hf hc)) (fun hc => kf (ite_y hf hc))
theorem r_icmp_lt (C : Cx G own cc nL ret p s m args meth c) {x y : Int32} {off : Int} {tgt : Nat} (d : Dj cc pc (.if_icmp .lt off) 3 pc' off tgt) {α : Type} {A B : α} {z : α} (hf : (if x < y then A else B) = z) (kt : A = z → W p l e R s m args below meth c H locs cells slots Q (F0 m tgt ls rest)) (kf : B = z → W p l e R s m args below meth c H locs cells slots Q (F0 m pc' ls rest)) : W p l e R s m args below meth c H locs cells slots Q (F0 m pc ls (.int y :: .int x :: rest)) := by
  obtain ⟨d1, rfl, d3⟩ := d
  exact lv_icmp_lt C.1 C.2.1 d1 d3 (fun hc => kt (ite_y hf hc)) (fun hc => kf (ite_n hf hc))
theorem r_icmp_ge (C : Cx G own cc nL ret p s m args meth c) {x y : Int32} {off : Int} {tgt : Nat} (d : Dj cc pc (.if_icmp .ge off) 3 pc' off tgt) {α : Type} {A B : α} {z : α} (hf : (if y ≤ x then A else B) = z) (kt : A = z → W p l e R s m args below meth c H locs cells slots Q (F0 m tgt ls rest)) (kf : B = z → W p l e R s m args below meth c H locs cells slots Q (F0 m pc' ls rest)) : W p l e R s m args below meth c H locs cells slots Q (F0 m pc ls (.int y :: .int x :: rest)) := by
  obtain ⟨d1, rfl, d3⟩ := d
  exact lv_icmp_ge C.1 C.2.1 d1 d3 (fun hc => kt (ite_y hf hc)) (fun hc => kf (ite_n hf hc))
theorem r_icmp_gt (C : Cx G own cc nL ret p s m args meth c) {x y : Int32} {off : Int} {tgt : Nat} (d : Dj cc pc (.if_icmp .gt off) 3 pc' off tgt) {α : Type} {A B : α} {z : α} (hf : (if y < x then A else B) = z) (kt : A = z → W p l e R s m args below meth c H locs cells slots Q (F0 m tgt ls rest)) (kf : B = z → W p l e R s m args below meth c H locs cells slots Q (F0 m pc' ls rest)) : W p l e R s m args below meth c H locs cells slots Q (F0 m pc ls (.int y :: .int x :: rest)) := by
  obtain ⟨d1, rfl, d3⟩ := d
  exact lv_icmp_gt C.1 C.2.1 d1 d3 (fun hc => kt (ite_y hf hc)) (fun hc => kf (ite_n hf hc))
theorem r_icmp_le (C : Cx G own cc nL ret p s m args meth c) {x y : Int32} {off : Int} {tgt : Nat} (d : Dj cc pc (.if_icmp .le off) 3 pc' off tgt) {α : Type} {A B : α} {z : α} (hf : (if x ≤ y then A else B) = z) (kt : A = z → W p l e R s m args below meth c H locs cells slots Q (F0 m tgt ls rest)) (kf : B = z → W p l e R s m args below meth c H locs cells slots Q (F0 m pc' ls rest)) : W p l e R s m args below meth c H locs cells slots Q (F0 m pc ls (.int y :: .int x :: rest)) := by
  obtain ⟨d1, rfl, d3⟩ := d
  exact lv_icmp_le C.1 C.2.1 d1 d3 (fun hc => kt (ite_y hf hc)) (fun hc => kf (ite_n hf hc))
theorem r_iret (C : Cx G own cc nL (some .int) p s m args meth c) (P : Hp G o s H locs) {rm : Room} (hz : cells = rm.cells ∧ slots = rm.slots) {x r : Int32} {o1 : OM} (d : Dc cc pc .ireturn 1 pc') (hf : some (x, o) = some (r, o1)) : W p l e R s m args below meth c H locs cells slots (Qm G (some (.int r)) o1 rm below args s) (F0 m pc ls [.int x]) := by
  obtain ⟨d1, rfl⟩ := d
  obtain ⟨h1, h2⟩ := hz
  cases hf
  have hlocks : meth.locks = false := C.2.2.2.2.2.2.2.1
  rw [h1, h2]
  exact W.iret C.1 C.2.1 C.2.2.2.1 (fun t ht _ => ⟨rfl, by rw [ht]; exact P.1, P.2.F ht⟩) P.2.2.2 d1
theorem r_lret (C : Cx G own cc nL (some .long) p s m args meth c) (P : Hp G o s H locs) {rm : Room} (hz : cells = rm.cells ∧ slots = rm.slots) {x r : Int64} {o1 : OM} (d : Dc cc pc .lreturn 1 pc') (hf : some (x, o) = some (r, o1)) : W p l e R s m args below meth c H locs cells slots (Qm G (some (.long r)) o1 rm below args s) (F0 m pc ls [.long x]) := by
  obtain ⟨d1, rfl⟩ := d
  obtain ⟨h1, h2⟩ := hz
  cases hf
  have hlocks : meth.locks = false := C.2.2.2.2.2.2.2.1
  rw [h1, h2]
  exact W.lret C.1 C.2.1 C.2.2.2.1 (fun t ht _ => ⟨rfl, by rw [ht]; exact P.1, P.2.F ht⟩) P.2.2.2 d1
theorem r_dret (C : Cx G own cc nL (some .double) p s m args meth c) (P : Hp G o s H locs) {rm : Room} (hz : cells = rm.cells ∧ slots = rm.slots) {x r : UInt64} {o1 : OM} (d : Dc cc pc .dreturn 1 pc') (hf : some (x, o) = some (r, o1)) : W p l e R s m args below meth c H locs cells slots (Qm G (some (.double r)) o1 rm below args s) (F0 m pc ls [.double x]) := by
  obtain ⟨d1, rfl⟩ := d
  obtain ⟨h1, h2⟩ := hz
  cases hf
  have hlocks : meth.locks = false := C.2.2.2.2.2.2.2.1
  rw [h1, h2]
  exact W.dret C.1 C.2.1 C.2.2.2.1 (fun t ht _ => ⟨rfl, by rw [ht]; exact P.1, P.2.F ht⟩) P.2.2.2 d1
theorem r_zret (C : Cx G own cc nL (some .boolean) p s m args meth c) (P : Hp G o s H locs) {rm : Room} (hz : cells = rm.cells ∧ slots = rm.slots) {x r : Int32} {o1 : OM} (d : Dc cc pc .ireturn 1 pc') (hf : grd (isZ x) (some (x, o)) = some (r, o1)) : W p l e R s m args below meth c H locs cells slots (Qm G (some (.int r)) o1 rm below args s) (F0 m pc ls [.int x]) := by
  obtain ⟨d1, rfl⟩ := d
  obtain ⟨h1, h2⟩ := hz
  obtain ⟨g1, g2⟩ := grd_s hf
  cases g2
  have hlocks : meth.locks = false := C.2.2.2.2.2.2.2.1
  have hn : narrow .boolean (.int x) = .int x := by
    unfold isZ at g1
    rcases Bool.or_eq_true _ _ ▸ g1 with h | h <;> (rw [of_decide_eq_true h]; rfl)
  rw [h1, h2]
  exact W.zret C.1 C.2.1 C.2.2.2.1 hn (fun t ht _ => ⟨rfl, by rw [ht]; exact P.1, P.2.F ht⟩) P.2.2.2 d1
theorem r_vret (C : Cx G own cc nL none p s m args meth c) (P : Hp G o s H locs) {rm : Room} (hz : cells = rm.cells ∧ slots = rm.slots) {r : Unit} {o1 : OM} (d : Dc cc pc .return_ 1 pc') (hf : some ((), o) = some (r, o1)) : W p l e R s m args below meth c H locs cells slots (Qm G none o1 rm below args s) (F0 m pc ls []) := by
  obtain ⟨d1, rfl⟩ := d
  obtain ⟨h1, h2⟩ := hz
  cases hf
  have hlocks : meth.locks = false := C.2.2.2.2.2.2.2.1
  rw [h1, h2]
  exact W.vret C.1 C.2.1 C.2.2.2.1 (fun t ht _ => ⟨rfl, by rw [ht]; exact P.1, P.2.F ht⟩) P.2.2.2 d1
theorem r_cald (C : Cx G own cc nL ret p s m args meth c) (P : Hp G o s H locs) {k i n : Nat} (hc : ∀ f x, cl0 G k i f x = .inl (aC G, n, .inl f)) (h : okb k i = true) {x : Int32} (d : Dc cc pc .caload 1 pc') {α : Type} {K : Option α} {z : α} (hf : grd (inB x n) K = some z)
    (kk : K = some z → W p l e R s m args below meth c H locs cells slots Q (F0 m pc' ls (.int (rd o k i x.toNatClampNeg) :: rest))) : W p l e R s m args below meth c H locs cells slots Q (F0 m pc ls (.int x :: .ref (rA G k i) :: rest)) := by
  obtain ⟨d1, rfl⟩ := d
  obtain ⟨g1, g2⟩ := grd_s hf
  have ha : (WS G o)[adr k i]? = some (rA G k i, .inl (aC G, n, .inl (o.1 k i))) := (WS_at h).trans (by unfold cel; rw [hc])
  exact va_cald C.1 C.2.1 C.2.2.2.2.2.2.1 P.1 (adr k i) 1 ha rfl (inB_in g1) d1 (kk g2)
theorem r_cast (C : Cx G own cc nL ret p s m args meth c) (P : Hp G o s H locs) {k i n : Nat} (hc : ∀ f x, cl0 G k i f x = .inl (aC G, n, .inl f)) (h : okb k i = true) {x v : Int32} (d : Dc cc pc .castore 1 pc') {α : Type} {K : OM → Option α} {z : α} (hf : grd (inB x n) (bd (wr o k i x.toNatClampNeg (vp_nar .char v)) K) = some z)
    (kk : ∀ o1 H1 L1, Hp G o1 s H1 L1 → K o1 = some z → W p l e R s m args below meth c H1 L1 cells slots Q (F0 m pc' ls rest)) : W p l e R s m args below meth c H locs cells slots Q (F0 m pc ls (.int v :: .int x :: .ref (rA G k i) :: rest)) := by
  obtain ⟨d1, rfl⟩ := d
  obtain ⟨g1, g2⟩ := grd_s hf
  have ha : (WS G o)[adr k i]? = some (rA G k i, .inl (aC G, n, .inl (o.1 k i))) := (WS_at h).trans (by unfold cel; rw [hc])
  refine va_cast C.1 C.2.1 C.2.2.2.2.2.2.1 P.1 (WS_D G o) P.2 (adr k i) 1 ha rfl (inB_in g1) d1 (fun H1 L1 h1 _ h3 => kk (wr o k i x.toNatClampNeg (vp_nar .char v)) H1 L1 (P.put ?_ h1 h3) g2)
  exact WS_set h (by unfold wr; rw [cel_self, hc]) (fun a b _ hab => by unfold wr; exact cel_wrA hab)
theorem r_aldT (C : Cx G own cc nL ret p s m args meth c) (P : Hp G o s H locs) {i : Nat} (h : okb 4 i = true) {x : Int32} (d : Dc cc pc .aaload 1 pc') {α : Type} {K : Nat → Option α} {z : α} (hf : grd (inB x 6) (bd (tid i (rd o 4 i x.toNatClampNeg)) K) = some z)
    (kk : ∀ t, okb 5 t = true → K t = some z → W p l e R s m args below meth c H locs cells slots Q (F0 m pc' ls (.ref (rA G 5 t) :: rest))) : W p l e R s m args below meth c H locs cells slots Q (F0 m pc ls (.int x :: .ref (rA G 4 i) :: rest)) := by
  obtain ⟨d1, rfl⟩ := d
  obtain ⟨g1, g2⟩ := grd_s hf
  have ha : (WS G o)[adr 4 i]? = some (rA G 4 i, .inl (aT G, 6, .inr (.inr (.inr (.inr (fun n => some (rA G 5 (tid i (o.1 4 i n))))))))) := WS_at h
  refine va_aldq C.1 C.2.1 C.2.2.2.2.2.2.1 P.1 (adr 4 i) 4 ha rfl (inB_in g1) d1 (kk _ ?_ g2)
  have hi : i < 8 := of_decide_eq_true h
  refine decide_eq_true ?_
  unfold tid
  omega
theorem r_aldS (C : Cx G own cc nL ret p s m args meth c) (P : Hp G o s H locs) {x : Int32} (d : Dc cc pc .aaload 1 pc') {α : Type} {K : Nat → Option α} {z : α} (hf : grd (inB x 6) (bd (x.toNatClampNeg + 2) K) = some z)
    (kk : ∀ t, okb 1 t = true → K t = some z → W p l e R s m args below meth c H locs cells slots Q (F0 m pc' ls (.ref (rA G 1 t) :: rest))) : W p l e R s m args below meth c H locs cells slots Q (F0 m pc ls (.int x :: .ref (rA G 15 0) :: rest)) := by
  obtain ⟨d1, rfl⟩ := d
  obtain ⟨g1, g2⟩ := grd_s hf
  have ha : (WS G o)[adr 15 0]? = some (rA G 15 0, .inl (aS G, 6, .inr (.inr (.inr (.inr (fun n => some (rA G 1 (n + 2)))))))) := WS_at rfl
  refine va_aldq C.1 C.2.1 C.2.2.2.2.2.2.1 P.1 (adr 15 0) 3 ha rfl (inB_in g1) d1 (kk _ ?_ g2)
  have hx := (inB_in g1)
  unfold vp_in at hx
  refine decide_eq_true ?_
  omega
theorem r_astT (C : Cx G own cc nL ret p s m args meth c) (P : Hp G o s H locs) {i t : Nat} (h : okb 4 i = true) (ht : okb 5 t = true) {x : Int32} (d : Dc cc pc .aastore 1 pc') {α : Type} {K : OM → Option α} {z : α} (hf : grd (inB x 6 && decide (t / 6 = i)) (bd (wr o 4 i x.toNatClampNeg (nI (t % 6))) K) = some z)
    (kk : ∀ o1 H1 L1, Hp G o1 s H1 L1 → K o1 = some z → W p l e R s m args below meth c H1 L1 cells slots Q (F0 m pc' ls rest)) : W p l e R s m args below meth c H locs cells slots Q (F0 m pc ls (.ref (rA G 5 t) :: .int x :: .ref (rA G 4 i) :: rest)) := by
  obtain ⟨d1, rfl⟩ := d
  obtain ⟨g1, g2⟩ := grd_s hf
  rw [Bool.and_eq_true] at g1
  obtain ⟨g1, g3⟩ := g1
  have g3 : t / 6 = i := of_decide_eq_true g3
  have ha : (WS G o)[adr 4 i]? = some (rA G 4 i, .inl (aT G, 6, .inr (.inr (.inr (.inr (fun n => some (rA G 5 (tid i (o.1 4 i n))))))))) := WS_at h
  refine va_astq C.1 C.2.1 C.2.2.2.2.2.2.1 P.1 (WS_D G o) P.2 (adr 4 i) 4 (adr 5 t) 3 (r := (RX3, TX3, 8)) ha rfl (WS_at ht) rfl (inB_in g1) d1 (fun H1 L1 h1 _ h3 => kk (wr o 4 i x.toNatClampNeg (nI (t % 6))) H1 L1 (P.put ?_ h1 h3) g2)
  refine WS_set h ?_ (fun a b _ hab => by unfold wr; exact cel_wrA hab)
  unfold wr
  rw [cel_self]
  show Sum.inl (aT G, 6, _) = _
  have hq : tid i (nI (t % 6)) = t := by
    unfold tid
    rw [nI_clamp (by omega)]
    omega
  refine congrArg (fun f => (Sum.inl (aT G, 6, .inr (.inr (.inr (.inr f)))) : va_E)) (funext fun n => ?_)
  unfold upd va_up
  by_cases hn : n = x.toNatClampNeg
  · simp only [if_pos hn, hq]
  · simp only [if_neg hn]
theorem r_alenI (C : Cx G own cc nL ret p s m args meth c) (P : Hp G o s H locs) {k i N : Nat} {v : Int32} (hc : ∀ f y, ∃ g, cl0 G k i f y = .inl (aI G, N, g)) (hv : Int32.ofNat N = v) (h : okb k i = true) (d : Dc cc pc .arraylength 1 pc') (kk : W p l e R s m args below meth c H locs cells slots Q (F0 m pc' ls (.int v :: rest))) : W p l e R s m args below meth c H locs cells slots Q (F0 m pc ls (.ref (rA G k i) :: rest)) := by
  obtain ⟨d1, rfl⟩ := d
  obtain ⟨g, hg⟩ := hc (o.1 k i) (o.2 k)
  have ha : (WS G o)[adr k i]? = some (rA G k i, .inl (aI G, (N, g))) := (WS_at h).trans (by unfold cel; rw [hg])
  exact va_alen C.1 C.2.1 C.2.2.2.2.2.2.1 P.1 (adr k i) 0 ha rfl hv d1 kk
theorem r_alenT (C : Cx G own cc nL ret p s m args meth c) (P : Hp G o s H locs) {k i N : Nat} {v : Int32} (hc : ∀ f y, ∃ g, cl0 G k i f y = .inl (aT G, N, g)) (hv : Int32.ofNat N = v) (h : okb k i = true) (d : Dc cc pc .arraylength 1 pc') (kk : W p l e R s m args below meth c H locs cells slots Q (F0 m pc' ls (.int v :: rest))) : W p l e R s m args below meth c H locs cells slots Q (F0 m pc ls (.ref (rA G k i) :: rest)) := by
  obtain ⟨d1, rfl⟩ := d
  obtain ⟨g, hg⟩ := hc (o.1 k i) (o.2 k)
  have ha : (WS G o)[adr k i]? = some (rA G k i, .inl (aT G, (N, g))) := (WS_at h).trans (by unfold cel; rw [hg])
  exact va_alen C.1 C.2.1 C.2.2.2.2.2.2.1 P.1 (adr k i) 4 ha rfl hv d1 kk
theorem r_alenS (C : Cx G own cc nL ret p s m args meth c) (P : Hp G o s H locs) {k i N : Nat} {v : Int32} (hc : ∀ f y, ∃ g, cl0 G k i f y = .inl (aS G, N, g)) (hv : Int32.ofNat N = v) (h : okb k i = true) (d : Dc cc pc .arraylength 1 pc') (kk : W p l e R s m args below meth c H locs cells slots Q (F0 m pc' ls (.int v :: rest))) : W p l e R s m args below meth c H locs cells slots Q (F0 m pc ls (.ref (rA G k i) :: rest)) := by
  obtain ⟨d1, rfl⟩ := d
  obtain ⟨g, hg⟩ := hc (o.1 k i) (o.2 k)
  have ha : (WS G o)[adr k i]? = some (rA G k i, .inl (aS G, (N, g))) := (WS_at h).trans (by unfold cel; rw [hg])
  exact va_alen C.1 C.2.1 C.2.2.2.2.2.2.1 P.1 (adr k i) 3 ha rfl hv d1 kk
def inC (n : Int32) (N M : Nat) : Bool := decide (¬ n < 0) && (decide (n.toNatClampNeg ≤ N) && decide (n.toNatClampNeg ≤ M))
theorem r_copy (C : Cx G own cc nL ret p s m args meth c) (P : Hp G o s H locs) {k i k1 i1 N M idx : Nat} (hc : ∀ f x, cl0 G k i f x = .inl (aI G, N, .inl f)) (hc1 : ∀ f x, cl0 G k1 i1 f x = .inl (aI G, M, .inl f)) (h : okb k i = true) (h1 : okb k1 i1 = true) (w1 : Cond.methodLink own idx arraycopyName ∈ WT) (w2 : Cond.native arraycopyName ∈ WT) (w3 : Cond.static arraycopyName ∈ WT) (w4 : Cond.initialized "java/lang/System" ∈ WT) (hsz : ls.size = nL) (hR : 1 ≤ R.frames ∧ (rest.map fun v => v.category).sum + (nativeFrameWords "java/lang/System" "arraycopy" 5 + 11) ≤ R.locals) {n : Int32} (d : Dc cc pc (.invokestatic idx) 3 pc') {α : Type} {K : OM → Option α} {z : α} (hf : grd (inC n N M) (bd (wrA o k1 i1 (va_cpy (o.1 k i) (o.1 k1 i1) 0 0 n.toNatClampNeg)) K) = some z)
    (kk : ∀ o1 H1 L1, Hp G o1 s H1 L1 → K o1 = some z → W p l e R s m args below meth c H1 L1 cells slots Q (F0 m pc' ls rest)) : W p l e R s m args below meth c H locs cells slots Q (F0 m pc ls (.int n :: .int 0 :: .ref (rA G k1 i1) :: .int 0 :: .ref (rA G k i) :: rest)) := by
  obtain ⟨d1, rfl⟩ := d
  obtain ⟨g1, g2⟩ := grd_s hf
  unfold inC at g1
  rw [Bool.and_eq_true, Bool.and_eq_true] at g1
  obtain ⟨g3, g4, g5⟩ := g1
  have ha : (WS G o)[adr k i]? = some (rA G k i, .inl (aI G, N, .inl (o.1 k i))) := (WS_at h).trans (by unfold cel; rw [hc])
  have ha1 : (WS G o)[adr k1 i1]? = some (rA G k1 i1, .inl (aI G, M, .inl (o.1 k1 i1))) := (WS_at h1).trans (by unfold cel; rw [hc1])
  have hts := C.2.2.2.2.2.1
  have z0 : (0 : Int32).toNatClampNeg = 0 := by decide
  refine va_copyi C.1 C.2.1 (C.2.2.1.trans hsz.symm) C.2.2.2.2.1 (hts _ w1) (hts _ w2) (hts _ w3) (hts _ w4) C.2.2.2.2.2.2.1 P.1 (WS_D G o) P.2 (adr k i) (adr k1 i1) 0 0 ha ha1 rfl rfl rfl (by decide) (by decide) (of_decide_eq_true g3) (by rw [z0]; have := of_decide_eq_true g4; omega) (by rw [z0]; have := of_decide_eq_true g5; omega) (fun _ _ => rfl) hR.1 hR.2 d1 (fun H1 L1 q1 _ q3 => kk _ H1 L1 (P.put ?_ q1 q3) g2)
  exact WS_set h1 (by rw [cel_self, hc1, z0]) (fun a b _ hab => cel_wrA hab)
/-- what the tables say of a call -/
def CallF (st : Bool) (own : String) (idx : Nat) (y : MethodName) (bytes : ByteArray) (maxL : Nat) (ret : Option FieldType) (n : Nat) : Prop :=
  Cond.methodLink own idx y ∈ WT ∧ (if st = true then Cond.static y ∈ WT else Cond.instanceMethod y ∈ WT ∧ Cond.selects y.cls y y ∈ WT) ∧ Cond.initialized y.cls ∈ WT ∧ Cond.code y bytes maxL ret ∈ WT ∧ (y.cls ≠ "java/lang/invoke/MethodHandle" ∧ y.cls ≠ "java/lang/invoke/VarHandle") ∧ (parseMethodDescriptor y.desc).map (fun d => d.parameters.length) = some n
theorem callB_F (C : Cx G own cc nL ret p s m args meth c) {st : Bool} {idx : Nat} {y : MethodName} {bytes : ByteArray} {maxL : Nat} {rt : Option FieldType} {n : Nat} (F : CallF st own idx y bytes maxL rt n) {rm : Room} (hz : rm.cells = 0 ∧ rm.slots = 0) (hR : rm.frames + 1 ≤ R.frames ∧ 8 + (maxL + 11) + rm.locals ≤ R.locals) : CallB R s args own idx y bytes maxL rt (Cond.code y bytes maxL rt :: WT) rm 0 0 n := by
  obtain ⟨f1, f2, f3, f4, f5, f6⟩ := F
  have hts := C.2.2.2.2.2.1
  refine ⟨hz.1, hz.2, hR.1, hR.2, fun w hw a' U hW => ?_, List.mem_cons_self, hts _ f4, hts _ f3, f5, fun sig h => ?_, hts _ f1⟩
  · have hw2 : w ∈ WT := by
      rcases List.mem_cons.mp hw with h | h
      · rw [h]; exact f4
      · exact h
    exact word_at hW (wt_good w hw2) (hts w hw2)
  · rw [h] at f6
    exact (Option.some.inj f6).symm
theorem preG_S (C : Cx G own cc nL ret p s m args meth c) (P : Hp G o s H locs) {As : List Value} : PreS s H (va_Pc As (PreG G o)) As := ⟨fun a U g mk q => ⟨q.1, q.2.1, va_K.moved (u := U) (U := U.calling g mk a) (Vm.Alike.refl U.vm) q.2.2.1, q.2.2.2⟩, fun U hU hW => ⟨rfl, by rw [hU]; exact P.1, va_K.moved hW.alike C.2.2.2.2.2.2.1, by rw [hU]; exact Nat.le_trans C.2.2.2.2.2.2.2.2 P.2.1⟩⟩
theorem r_call0 {rv : Option Value} {o1 : OM} {a : Array Value} {st0 : List Value} (hr : va_Run p l e R s m args below meth c H locs cells slots 0 0 (F0 m pc ls st0) rest (QcG G rv o1 a) (fr G)) (P : Hp G o s H locs) (kk : ∀ H1 L1, Hp G o1 s H1 L1 → W p l e R s m args below meth c H1 L1 cells slots Q (F0 m (pc + 3) ls (rv.toList ++ rest))) : W p l e R s m args below meth c H locs cells slots Q (F0 m pc ls st0) := by
  intro T hT X
  obtain ⟨v, st₀, t, T', L, h0, X', hL, e1, e2, ⟨hv, hP1, hz, hk⟩, st⟩ := hr T hT X
  cases hv
  rw [h0] at hz hk
  have hS : va_S (fr G) s.heap T'.heap (locs ++ L) := ⟨Nat.le_trans P.2.1 (by rw [e1]; exact hz), fun q h1 h2 => by rw [e1, hk q (Nat.lt_of_lt_of_le h1 P.2.1) h2]; exact P.2.2.1 q h1 h2, fun q hq => by
    rcases List.mem_append.mp hq with h | h
    · exact P.2.2.2 q h
    · exact hL q h⟩
  obtain ⟨t2, a1, b1⟩ := kk T'.heap (locs ++ L) ⟨by rw [e1]; exact hP1, hS⟩ T' rfl X'
  exact ⟨t2, st t2 a1, b1⟩
theorem r_cVi (C : Cx G own cc nL ret p s m args meth c) (P : Hp G o s H locs) {idx : Nat} {y : MethodName} {bytes : ByteArray} {maxL n : Nat} {rt : Option FieldType} (F : CallF false own idx y bytes maxL rt n) {rm : Room} (k i : Nat) {ci : Nat} {q : vw_C} (hc : ∀ f x, ∃ fs, cl0 G k i f x = .inr (ci, fs)) (hq : vwCl[ci]? = some q) (hy : y.cls = q.1) (hk : okb k i = true) (As rest : List Value) {st0 : List Value} {α : Type} {FF : Option (Int32 × OM)} {K : Int32 → OM → Option α} {z : α} (hf : bn FF K = some z)
    (hM : ∀ r o1, FF = some (r, o1) → Ct l y bytes maxL rt rm G (.ref (rA G k i) :: As) o (some (.int r)) o1) (hz : rm.cells = 0 ∧ rm.slots = 0) (hR : rm.frames + 1 ≤ R.frames ∧ 8 + (maxL + 11) + rm.locals ≤ R.locals) (hcs : cells ≤ R.cells ∧ slots ≤ R.slots) (hn : As.length = n) (hst : st0 = As.reverse ++ .ref (rA G k i) :: rest) (hsz : ls.size = nL) (hw : (rest.map fun v => v.category).sum ≤ 8) (d : Dc cc pc (.invokevirtual idx) 3 pc')
    (kk : ∀ r o1 H1 L1, Hp G o1 s H1 L1 → K r o1 = some z → W p l e R s m args below meth c H1 L1 cells slots Q (F0 m pc' ls (.int r :: rest))) : W p l e R s m args below meth c H locs cells slots Q (F0 m pc ls st0) := by
  obtain ⟨d1, rfl⟩ := d
  obtain ⟨r, o1, g1, g2⟩ := bn_s hf
  have hb := callB_F C F hz hR
  have hb' := F.2.1
  rw [if_neg (by decide)] at hb'
  have hts := C.2.2.2.2.2.1
  obtain ⟨fs, hfs⟩ := hc (o.1 k i) (o.2 k)
  have ha : (WS G o)[adr k i]? = some (rA G k i, .inr (ci, fs)) := (WS_at hk).trans (by unfold cel; rw [hfs])
  have hv := va_recv C.2.2.2.2.2.2.1 P.1 hq ha
  rw [← hy] at hv
  have hp := preG_S C P (As := .ref (rA G k i) :: As)
  have hM' := hM r o1 g1
  unfold Ct at hM'
  rw [hz.1, hz.2] at hM'
  refine r_call0 (va_runV (C := y.cls) (b := rA G k i) (As := As) (rest := rest) ⟨C.1, C.2.1, C.2.2.1, C.2.2.2.2.1, hts⟩ hM' ⟨hb, hts _ hb'.1, hts _ hb'.2⟩ ⟨hp.1, hv, hp.2⟩ rfl hn hsz hst (lv_room hw) d1 hcs) P (fun H1 L1 h1 => kk r o1 H1 L1 h1 g2)
theorem r_cSi (C : Cx G own cc nL ret p s m args meth c) (P : Hp G o s H locs) {idx : Nat} {y : MethodName} {bytes : ByteArray} {maxL n : Nat} {rt : Option FieldType} (F : CallF true own idx y bytes maxL rt n) {rm : Room} (As rest : List Value) {st0 : List Value} {α : Type} {FF : Option (Int32 × OM)} {K : Int32 → OM → Option α} {z : α} (hf : bn FF K = some z)
    (hM : ∀ r o1, FF = some (r, o1) → Ct l y bytes maxL rt rm G As o (some (.int r)) o1) (hz : rm.cells = 0 ∧ rm.slots = 0) (hR : rm.frames + 1 ≤ R.frames ∧ 8 + (maxL + 11) + rm.locals ≤ R.locals) (hcs : cells ≤ R.cells ∧ slots ≤ R.slots) (hn : As.length = n) (hst : st0 = As.reverse ++ rest) (hsz : ls.size = nL) (hw : (rest.map fun v => v.category).sum ≤ 8) (d : Dc cc pc (.invokestatic idx) 3 pc')
    (kk : ∀ r o1 H1 L1, Hp G o1 s H1 L1 → K r o1 = some z → W p l e R s m args below meth c H1 L1 cells slots Q (F0 m pc' ls (.int r :: rest))) : W p l e R s m args below meth c H locs cells slots Q (F0 m pc ls st0) := by
  obtain ⟨d1, rfl⟩ := d
  obtain ⟨r, o1, g1, g2⟩ := bn_s hf
  have hb := callB_F C F hz hR
  have hb' := F.2.1
  rw [if_pos rfl] at hb'
  have hts := C.2.2.2.2.2.1
  have hp := preG_S C P (As := As)
  have hM' := hM r o1 g1
  unfold Ct at hM'
  rw [hz.1, hz.2] at hM'
  refine r_call0 (va_runS (As := As) (rest := rest) ⟨C.1, C.2.1, C.2.2.1, C.2.2.2.2.1, hts⟩ hM' ⟨hb, hts _ hb'⟩ hp rfl hn hsz hst (lv_room hw) d1 hcs) P (fun H1 L1 h1 => kk r o1 H1 L1 h1 g2)
theorem r_cVl (C : Cx G own cc nL ret p s m args meth c) (P : Hp G o s H locs) {idx : Nat} {y : MethodName} {bytes : ByteArray} {maxL n : Nat} {rt : Option FieldType} (F : CallF false own idx y bytes maxL rt n) {rm : Room} (k i : Nat) {ci : Nat} {q : vw_C} (hc : ∀ f x, ∃ fs, cl0 G k i f x = .inr (ci, fs)) (hq : vwCl[ci]? = some q) (hy : y.cls = q.1) (hk : okb k i = true) (As rest : List Value) {st0 : List Value} {α : Type} {FF : Option (Int64 × OM)} {K : Int64 → OM → Option α} {z : α} (hf : bn FF K = some z)
    (hM : ∀ r o1, FF = some (r, o1) → Ct l y bytes maxL rt rm G (.ref (rA G k i) :: As) o (some (.long r)) o1) (hz : rm.cells = 0 ∧ rm.slots = 0) (hR : rm.frames + 1 ≤ R.frames ∧ 8 + (maxL + 11) + rm.locals ≤ R.locals) (hcs : cells ≤ R.cells ∧ slots ≤ R.slots) (hn : As.length = n) (hst : st0 = As.reverse ++ .ref (rA G k i) :: rest) (hsz : ls.size = nL) (hw : (rest.map fun v => v.category).sum ≤ 8) (d : Dc cc pc (.invokevirtual idx) 3 pc')
    (kk : ∀ r o1 H1 L1, Hp G o1 s H1 L1 → K r o1 = some z → W p l e R s m args below meth c H1 L1 cells slots Q (F0 m pc' ls (.long r :: rest))) : W p l e R s m args below meth c H locs cells slots Q (F0 m pc ls st0) := by
  obtain ⟨d1, rfl⟩ := d
  obtain ⟨r, o1, g1, g2⟩ := bn_s hf
  have hb := callB_F C F hz hR
  have hb' := F.2.1
  rw [if_neg (by decide)] at hb'
  have hts := C.2.2.2.2.2.1
  obtain ⟨fs, hfs⟩ := hc (o.1 k i) (o.2 k)
  have ha : (WS G o)[adr k i]? = some (rA G k i, .inr (ci, fs)) := (WS_at hk).trans (by unfold cel; rw [hfs])
  have hv := va_recv C.2.2.2.2.2.2.1 P.1 hq ha
  rw [← hy] at hv
  have hp := preG_S C P (As := .ref (rA G k i) :: As)
  have hM' := hM r o1 g1
  unfold Ct at hM'
  rw [hz.1, hz.2] at hM'
  refine r_call0 (va_runV (C := y.cls) (b := rA G k i) (As := As) (rest := rest) ⟨C.1, C.2.1, C.2.2.1, C.2.2.2.2.1, hts⟩ hM' ⟨hb, hts _ hb'.1, hts _ hb'.2⟩ ⟨hp.1, hv, hp.2⟩ rfl hn hsz hst (lv_room hw) d1 hcs) P (fun H1 L1 h1 => kk r o1 H1 L1 h1 g2)
theorem r_cSl (C : Cx G own cc nL ret p s m args meth c) (P : Hp G o s H locs) {idx : Nat} {y : MethodName} {bytes : ByteArray} {maxL n : Nat} {rt : Option FieldType} (F : CallF true own idx y bytes maxL rt n) {rm : Room} (As rest : List Value) {st0 : List Value} {α : Type} {FF : Option (Int64 × OM)} {K : Int64 → OM → Option α} {z : α} (hf : bn FF K = some z)
    (hM : ∀ r o1, FF = some (r, o1) → Ct l y bytes maxL rt rm G As o (some (.long r)) o1) (hz : rm.cells = 0 ∧ rm.slots = 0) (hR : rm.frames + 1 ≤ R.frames ∧ 8 + (maxL + 11) + rm.locals ≤ R.locals) (hcs : cells ≤ R.cells ∧ slots ≤ R.slots) (hn : As.length = n) (hst : st0 = As.reverse ++ rest) (hsz : ls.size = nL) (hw : (rest.map fun v => v.category).sum ≤ 8) (d : Dc cc pc (.invokestatic idx) 3 pc')
    (kk : ∀ r o1 H1 L1, Hp G o1 s H1 L1 → K r o1 = some z → W p l e R s m args below meth c H1 L1 cells slots Q (F0 m pc' ls (.long r :: rest))) : W p l e R s m args below meth c H locs cells slots Q (F0 m pc ls st0) := by
  obtain ⟨d1, rfl⟩ := d
  obtain ⟨r, o1, g1, g2⟩ := bn_s hf
  have hb := callB_F C F hz hR
  have hb' := F.2.1
  rw [if_pos rfl] at hb'
  have hts := C.2.2.2.2.2.1
  have hp := preG_S C P (As := As)
  have hM' := hM r o1 g1
  unfold Ct at hM'
  rw [hz.1, hz.2] at hM'
  refine r_call0 (va_runS (As := As) (rest := rest) ⟨C.1, C.2.1, C.2.2.1, C.2.2.2.2.1, hts⟩ hM' ⟨hb, hts _ hb'⟩ hp rfl hn hsz hst (lv_room hw) d1 hcs) P (fun H1 L1 h1 => kk r o1 H1 L1 h1 g2)
theorem r_cVd (C : Cx G own cc nL ret p s m args meth c) (P : Hp G o s H locs) {idx : Nat} {y : MethodName} {bytes : ByteArray} {maxL n : Nat} {rt : Option FieldType} (F : CallF false own idx y bytes maxL rt n) {rm : Room} (k i : Nat) {ci : Nat} {q : vw_C} (hc : ∀ f x, ∃ fs, cl0 G k i f x = .inr (ci, fs)) (hq : vwCl[ci]? = some q) (hy : y.cls = q.1) (hk : okb k i = true) (As rest : List Value) {st0 : List Value} {α : Type} {FF : Option (UInt64 × OM)} {K : UInt64 → OM → Option α} {z : α} (hf : bn FF K = some z)
    (hM : ∀ r o1, FF = some (r, o1) → Ct l y bytes maxL rt rm G (.ref (rA G k i) :: As) o (some (.double r)) o1) (hz : rm.cells = 0 ∧ rm.slots = 0) (hR : rm.frames + 1 ≤ R.frames ∧ 8 + (maxL + 11) + rm.locals ≤ R.locals) (hcs : cells ≤ R.cells ∧ slots ≤ R.slots) (hn : As.length = n) (hst : st0 = As.reverse ++ .ref (rA G k i) :: rest) (hsz : ls.size = nL) (hw : (rest.map fun v => v.category).sum ≤ 8) (d : Dc cc pc (.invokevirtual idx) 3 pc')
    (kk : ∀ r o1 H1 L1, Hp G o1 s H1 L1 → K r o1 = some z → W p l e R s m args below meth c H1 L1 cells slots Q (F0 m pc' ls (.double r :: rest))) : W p l e R s m args below meth c H locs cells slots Q (F0 m pc ls st0) := by
  obtain ⟨d1, rfl⟩ := d
  obtain ⟨r, o1, g1, g2⟩ := bn_s hf
  have hb := callB_F C F hz hR
  have hb' := F.2.1
  rw [if_neg (by decide)] at hb'
  have hts := C.2.2.2.2.2.1
  obtain ⟨fs, hfs⟩ := hc (o.1 k i) (o.2 k)
  have ha : (WS G o)[adr k i]? = some (rA G k i, .inr (ci, fs)) := (WS_at hk).trans (by unfold cel; rw [hfs])
  have hv := va_recv C.2.2.2.2.2.2.1 P.1 hq ha
  rw [← hy] at hv
  have hp := preG_S C P (As := .ref (rA G k i) :: As)
  have hM' := hM r o1 g1
  unfold Ct at hM'
  rw [hz.1, hz.2] at hM'
  refine r_call0 (va_runV (C := y.cls) (b := rA G k i) (As := As) (rest := rest) ⟨C.1, C.2.1, C.2.2.1, C.2.2.2.2.1, hts⟩ hM' ⟨hb, hts _ hb'.1, hts _ hb'.2⟩ ⟨hp.1, hv, hp.2⟩ rfl hn hsz hst (lv_room hw) d1 hcs) P (fun H1 L1 h1 => kk r o1 H1 L1 h1 g2)
theorem r_cSd (C : Cx G own cc nL ret p s m args meth c) (P : Hp G o s H locs) {idx : Nat} {y : MethodName} {bytes : ByteArray} {maxL n : Nat} {rt : Option FieldType} (F : CallF true own idx y bytes maxL rt n) {rm : Room} (As rest : List Value) {st0 : List Value} {α : Type} {FF : Option (UInt64 × OM)} {K : UInt64 → OM → Option α} {z : α} (hf : bn FF K = some z)
    (hM : ∀ r o1, FF = some (r, o1) → Ct l y bytes maxL rt rm G As o (some (.double r)) o1) (hz : rm.cells = 0 ∧ rm.slots = 0) (hR : rm.frames + 1 ≤ R.frames ∧ 8 + (maxL + 11) + rm.locals ≤ R.locals) (hcs : cells ≤ R.cells ∧ slots ≤ R.slots) (hn : As.length = n) (hst : st0 = As.reverse ++ rest) (hsz : ls.size = nL) (hw : (rest.map fun v => v.category).sum ≤ 8) (d : Dc cc pc (.invokestatic idx) 3 pc')
    (kk : ∀ r o1 H1 L1, Hp G o1 s H1 L1 → K r o1 = some z → W p l e R s m args below meth c H1 L1 cells slots Q (F0 m pc' ls (.double r :: rest))) : W p l e R s m args below meth c H locs cells slots Q (F0 m pc ls st0) := by
  obtain ⟨d1, rfl⟩ := d
  obtain ⟨r, o1, g1, g2⟩ := bn_s hf
  have hb := callB_F C F hz hR
  have hb' := F.2.1
  rw [if_pos rfl] at hb'
  have hts := C.2.2.2.2.2.1
  have hp := preG_S C P (As := As)
  have hM' := hM r o1 g1
  unfold Ct at hM'
  rw [hz.1, hz.2] at hM'
  refine r_call0 (va_runS (As := As) (rest := rest) ⟨C.1, C.2.1, C.2.2.1, C.2.2.2.2.1, hts⟩ hM' ⟨hb, hts _ hb'⟩ hp rfl hn hsz hst (lv_room hw) d1 hcs) P (fun H1 L1 h1 => kk r o1 H1 L1 h1 g2)
theorem r_cVv (C : Cx G own cc nL ret p s m args meth c) (P : Hp G o s H locs) {idx : Nat} {y : MethodName} {bytes : ByteArray} {maxL n : Nat} {rt : Option FieldType} (F : CallF false own idx y bytes maxL rt n) {rm : Room} (k i : Nat) {ci : Nat} {q : vw_C} (hc : ∀ f x, ∃ fs, cl0 G k i f x = .inr (ci, fs)) (hq : vwCl[ci]? = some q) (hy : y.cls = q.1) (hk : okb k i = true) (As rest : List Value) {st0 : List Value} {α : Type} {FF : Option (Unit × OM)} {K : Unit → OM → Option α} {z : α} (hf : bn FF K = some z)
    (hM : ∀ r o1, FF = some (r, o1) → Ct l y bytes maxL rt rm G (.ref (rA G k i) :: As) o (none) o1) (hz : rm.cells = 0 ∧ rm.slots = 0) (hR : rm.frames + 1 ≤ R.frames ∧ 8 + (maxL + 11) + rm.locals ≤ R.locals) (hcs : cells ≤ R.cells ∧ slots ≤ R.slots) (hn : As.length = n) (hst : st0 = As.reverse ++ .ref (rA G k i) :: rest) (hsz : ls.size = nL) (hw : (rest.map fun v => v.category).sum ≤ 8) (d : Dc cc pc (.invokevirtual idx) 3 pc')
    (kk : ∀ r o1 H1 L1, Hp G o1 s H1 L1 → K r o1 = some z → W p l e R s m args below meth c H1 L1 cells slots Q (F0 m pc' ls (rest))) : W p l e R s m args below meth c H locs cells slots Q (F0 m pc ls st0) := by
  obtain ⟨d1, rfl⟩ := d
  obtain ⟨r, o1, g1, g2⟩ := bn_s hf
  have hb := callB_F C F hz hR
  have hb' := F.2.1
  rw [if_neg (by decide)] at hb'
  have hts := C.2.2.2.2.2.1
  obtain ⟨fs, hfs⟩ := hc (o.1 k i) (o.2 k)
  have ha : (WS G o)[adr k i]? = some (rA G k i, .inr (ci, fs)) := (WS_at hk).trans (by unfold cel; rw [hfs])
  have hv := va_recv C.2.2.2.2.2.2.1 P.1 hq ha
  rw [← hy] at hv
  have hp := preG_S C P (As := .ref (rA G k i) :: As)
  have hM' := hM r o1 g1
  unfold Ct at hM'
  rw [hz.1, hz.2] at hM'
  refine r_call0 (va_runV (C := y.cls) (b := rA G k i) (As := As) (rest := rest) ⟨C.1, C.2.1, C.2.2.1, C.2.2.2.2.1, hts⟩ hM' ⟨hb, hts _ hb'.1, hts _ hb'.2⟩ ⟨hp.1, hv, hp.2⟩ rfl hn hsz hst (lv_room hw) d1 hcs) P (fun H1 L1 h1 => kk r o1 H1 L1 h1 g2)
theorem r_cSv (C : Cx G own cc nL ret p s m args meth c) (P : Hp G o s H locs) {idx : Nat} {y : MethodName} {bytes : ByteArray} {maxL n : Nat} {rt : Option FieldType} (F : CallF true own idx y bytes maxL rt n) {rm : Room} (As rest : List Value) {st0 : List Value} {α : Type} {FF : Option (Unit × OM)} {K : Unit → OM → Option α} {z : α} (hf : bn FF K = some z)
    (hM : ∀ r o1, FF = some (r, o1) → Ct l y bytes maxL rt rm G As o (none) o1) (hz : rm.cells = 0 ∧ rm.slots = 0) (hR : rm.frames + 1 ≤ R.frames ∧ 8 + (maxL + 11) + rm.locals ≤ R.locals) (hcs : cells ≤ R.cells ∧ slots ≤ R.slots) (hn : As.length = n) (hst : st0 = As.reverse ++ rest) (hsz : ls.size = nL) (hw : (rest.map fun v => v.category).sum ≤ 8) (d : Dc cc pc (.invokestatic idx) 3 pc')
    (kk : ∀ r o1 H1 L1, Hp G o1 s H1 L1 → K r o1 = some z → W p l e R s m args below meth c H1 L1 cells slots Q (F0 m pc' ls (rest))) : W p l e R s m args below meth c H locs cells slots Q (F0 m pc ls st0) := by
  obtain ⟨d1, rfl⟩ := d
  obtain ⟨r, o1, g1, g2⟩ := bn_s hf
  have hb := callB_F C F hz hR
  have hb' := F.2.1
  rw [if_pos rfl] at hb'
  have hts := C.2.2.2.2.2.1
  have hp := preG_S C P (As := As)
  have hM' := hM r o1 g1
  unfold Ct at hM'
  rw [hz.1, hz.2] at hM'
  refine r_call0 (va_runS (As := As) (rest := rest) ⟨C.1, C.2.1, C.2.2.1, C.2.2.2.2.1, hts⟩ hM' ⟨hb, hts _ hb'⟩ hp rfl hn hsz hst (lv_room hw) d1 hcs) P (fun H1 L1 h1 => kk r o1 H1 L1 h1 g2)
theorem r_qVi (C : Cx G own cc nL ret p s m args meth c) (P : Hp G o s H locs) {idx : Nat} {y : MethodName} {bytes : ByteArray} {maxL n : Nat} {rt : Option FieldType} (F : CallF false own idx y bytes maxL rt n) {rm : Room} (k i : Nat) {ci : Nat} {q : vw_C} (hc : ∀ f x, ∃ fs, cl0 G k i f x = .inr (ci, fs)) (hq : vwCl[ci]? = some q) (hy : y.cls = q.1) (hk : okb k i = true) (As rest : List Value) {st0 : List Value} {α : Type} {FF : Option Int32} {K : Int32 → Option α} {z : α} (hf : bq FF K = some z)
    (hM : ∀ r, FF = some r → Ct l y bytes maxL rt rm G (.ref (rA G k i) :: As) o (some (.int r)) o) (hz : rm.cells = 0 ∧ rm.slots = 0) (hR : rm.frames + 1 ≤ R.frames ∧ 8 + (maxL + 11) + rm.locals ≤ R.locals) (hcs : cells ≤ R.cells ∧ slots ≤ R.slots) (hn : As.length = n) (hst : st0 = As.reverse ++ .ref (rA G k i) :: rest) (hsz : ls.size = nL) (hw : (rest.map fun v => v.category).sum ≤ 8) (d : Dc cc pc (.invokevirtual idx) 3 pc')
    (kk : ∀ r H1 L1, Hp G o s H1 L1 → K r = some z → W p l e R s m args below meth c H1 L1 cells slots Q (F0 m pc' ls (.int r :: rest))) : W p l e R s m args below meth c H locs cells slots Q (F0 m pc ls st0) := by
  obtain ⟨d1, rfl⟩ := d
  obtain ⟨r, g1, g2⟩ := bq_s hf
  have hb := callB_F C F hz hR
  have hb' := F.2.1
  rw [if_neg (by decide)] at hb'
  have hts := C.2.2.2.2.2.1
  obtain ⟨fs, hfs⟩ := hc (o.1 k i) (o.2 k)
  have ha : (WS G o)[adr k i]? = some (rA G k i, .inr (ci, fs)) := (WS_at hk).trans (by unfold cel; rw [hfs])
  have hv := va_recv C.2.2.2.2.2.2.1 P.1 hq ha
  rw [← hy] at hv
  have hp := preG_S C P (As := .ref (rA G k i) :: As)
  have hM' := hM r g1
  unfold Ct at hM'
  rw [hz.1, hz.2] at hM'
  refine r_call0 (va_runV (C := y.cls) (b := rA G k i) (As := As) (rest := rest) ⟨C.1, C.2.1, C.2.2.1, C.2.2.2.2.1, hts⟩ hM' ⟨hb, hts _ hb'.1, hts _ hb'.2⟩ ⟨hp.1, hv, hp.2⟩ rfl hn hsz hst (lv_room hw) d1 hcs) P (fun H1 L1 h1 => kk r H1 L1 h1 g2)
theorem r_qSi (C : Cx G own cc nL ret p s m args meth c) (P : Hp G o s H locs) {idx : Nat} {y : MethodName} {bytes : ByteArray} {maxL n : Nat} {rt : Option FieldType} (F : CallF true own idx y bytes maxL rt n) {rm : Room} (As rest : List Value) {st0 : List Value} {α : Type} {FF : Option Int32} {K : Int32 → Option α} {z : α} (hf : bq FF K = some z)
    (hM : ∀ r, FF = some r → Ct l y bytes maxL rt rm G As o (some (.int r)) o) (hz : rm.cells = 0 ∧ rm.slots = 0) (hR : rm.frames + 1 ≤ R.frames ∧ 8 + (maxL + 11) + rm.locals ≤ R.locals) (hcs : cells ≤ R.cells ∧ slots ≤ R.slots) (hn : As.length = n) (hst : st0 = As.reverse ++ rest) (hsz : ls.size = nL) (hw : (rest.map fun v => v.category).sum ≤ 8) (d : Dc cc pc (.invokestatic idx) 3 pc')
    (kk : ∀ r H1 L1, Hp G o s H1 L1 → K r = some z → W p l e R s m args below meth c H1 L1 cells slots Q (F0 m pc' ls (.int r :: rest))) : W p l e R s m args below meth c H locs cells slots Q (F0 m pc ls st0) := by
  obtain ⟨d1, rfl⟩ := d
  obtain ⟨r, g1, g2⟩ := bq_s hf
  have hb := callB_F C F hz hR
  have hb' := F.2.1
  rw [if_pos rfl] at hb'
  have hts := C.2.2.2.2.2.1
  have hp := preG_S C P (As := As)
  have hM' := hM r g1
  unfold Ct at hM'
  rw [hz.1, hz.2] at hM'
  refine r_call0 (va_runS (As := As) (rest := rest) ⟨C.1, C.2.1, C.2.2.1, C.2.2.2.2.1, hts⟩ hM' ⟨hb, hts _ hb'⟩ hp rfl hn hsz hst (lv_room hw) d1 hcs) P (fun H1 L1 h1 => kk r H1 L1 h1 g2)
theorem r_qVl (C : Cx G own cc nL ret p s m args meth c) (P : Hp G o s H locs) {idx : Nat} {y : MethodName} {bytes : ByteArray} {maxL n : Nat} {rt : Option FieldType} (F : CallF false own idx y bytes maxL rt n) {rm : Room} (k i : Nat) {ci : Nat} {q : vw_C} (hc : ∀ f x, ∃ fs, cl0 G k i f x = .inr (ci, fs)) (hq : vwCl[ci]? = some q) (hy : y.cls = q.1) (hk : okb k i = true) (As rest : List Value) {st0 : List Value} {α : Type} {FF : Option Int64} {K : Int64 → Option α} {z : α} (hf : bq FF K = some z)
    (hM : ∀ r, FF = some r → Ct l y bytes maxL rt rm G (.ref (rA G k i) :: As) o (some (.long r)) o) (hz : rm.cells = 0 ∧ rm.slots = 0) (hR : rm.frames + 1 ≤ R.frames ∧ 8 + (maxL + 11) + rm.locals ≤ R.locals) (hcs : cells ≤ R.cells ∧ slots ≤ R.slots) (hn : As.length = n) (hst : st0 = As.reverse ++ .ref (rA G k i) :: rest) (hsz : ls.size = nL) (hw : (rest.map fun v => v.category).sum ≤ 8) (d : Dc cc pc (.invokevirtual idx) 3 pc')
    (kk : ∀ r H1 L1, Hp G o s H1 L1 → K r = some z → W p l e R s m args below meth c H1 L1 cells slots Q (F0 m pc' ls (.long r :: rest))) : W p l e R s m args below meth c H locs cells slots Q (F0 m pc ls st0) := by
  obtain ⟨d1, rfl⟩ := d
  obtain ⟨r, g1, g2⟩ := bq_s hf
  have hb := callB_F C F hz hR
  have hb' := F.2.1
  rw [if_neg (by decide)] at hb'
  have hts := C.2.2.2.2.2.1
  obtain ⟨fs, hfs⟩ := hc (o.1 k i) (o.2 k)
  have ha : (WS G o)[adr k i]? = some (rA G k i, .inr (ci, fs)) := (WS_at hk).trans (by unfold cel; rw [hfs])
  have hv := va_recv C.2.2.2.2.2.2.1 P.1 hq ha
  rw [← hy] at hv
  have hp := preG_S C P (As := .ref (rA G k i) :: As)
  have hM' := hM r g1
  unfold Ct at hM'
  rw [hz.1, hz.2] at hM'
  refine r_call0 (va_runV (C := y.cls) (b := rA G k i) (As := As) (rest := rest) ⟨C.1, C.2.1, C.2.2.1, C.2.2.2.2.1, hts⟩ hM' ⟨hb, hts _ hb'.1, hts _ hb'.2⟩ ⟨hp.1, hv, hp.2⟩ rfl hn hsz hst (lv_room hw) d1 hcs) P (fun H1 L1 h1 => kk r H1 L1 h1 g2)
theorem r_qSl (C : Cx G own cc nL ret p s m args meth c) (P : Hp G o s H locs) {idx : Nat} {y : MethodName} {bytes : ByteArray} {maxL n : Nat} {rt : Option FieldType} (F : CallF true own idx y bytes maxL rt n) {rm : Room} (As rest : List Value) {st0 : List Value} {α : Type} {FF : Option Int64} {K : Int64 → Option α} {z : α} (hf : bq FF K = some z)
    (hM : ∀ r, FF = some r → Ct l y bytes maxL rt rm G As o (some (.long r)) o) (hz : rm.cells = 0 ∧ rm.slots = 0) (hR : rm.frames + 1 ≤ R.frames ∧ 8 + (maxL + 11) + rm.locals ≤ R.locals) (hcs : cells ≤ R.cells ∧ slots ≤ R.slots) (hn : As.length = n) (hst : st0 = As.reverse ++ rest) (hsz : ls.size = nL) (hw : (rest.map fun v => v.category).sum ≤ 8) (d : Dc cc pc (.invokestatic idx) 3 pc')
    (kk : ∀ r H1 L1, Hp G o s H1 L1 → K r = some z → W p l e R s m args below meth c H1 L1 cells slots Q (F0 m pc' ls (.long r :: rest))) : W p l e R s m args below meth c H locs cells slots Q (F0 m pc ls st0) := by
  obtain ⟨d1, rfl⟩ := d
  obtain ⟨r, g1, g2⟩ := bq_s hf
  have hb := callB_F C F hz hR
  have hb' := F.2.1
  rw [if_pos rfl] at hb'
  have hts := C.2.2.2.2.2.1
  have hp := preG_S C P (As := As)
  have hM' := hM r g1
  unfold Ct at hM'
  rw [hz.1, hz.2] at hM'
  refine r_call0 (va_runS (As := As) (rest := rest) ⟨C.1, C.2.1, C.2.2.1, C.2.2.2.2.1, hts⟩ hM' ⟨hb, hts _ hb'⟩ hp rfl hn hsz hst (lv_room hw) d1 hcs) P (fun H1 L1 h1 => kk r H1 L1 h1 g2)
theorem r_qVd (C : Cx G own cc nL ret p s m args meth c) (P : Hp G o s H locs) {idx : Nat} {y : MethodName} {bytes : ByteArray} {maxL n : Nat} {rt : Option FieldType} (F : CallF false own idx y bytes maxL rt n) {rm : Room} (k i : Nat) {ci : Nat} {q : vw_C} (hc : ∀ f x, ∃ fs, cl0 G k i f x = .inr (ci, fs)) (hq : vwCl[ci]? = some q) (hy : y.cls = q.1) (hk : okb k i = true) (As rest : List Value) {st0 : List Value} {α : Type} {FF : Option UInt64} {K : UInt64 → Option α} {z : α} (hf : bq FF K = some z)
    (hM : ∀ r, FF = some r → Ct l y bytes maxL rt rm G (.ref (rA G k i) :: As) o (some (.double r)) o) (hz : rm.cells = 0 ∧ rm.slots = 0) (hR : rm.frames + 1 ≤ R.frames ∧ 8 + (maxL + 11) + rm.locals ≤ R.locals) (hcs : cells ≤ R.cells ∧ slots ≤ R.slots) (hn : As.length = n) (hst : st0 = As.reverse ++ .ref (rA G k i) :: rest) (hsz : ls.size = nL) (hw : (rest.map fun v => v.category).sum ≤ 8) (d : Dc cc pc (.invokevirtual idx) 3 pc')
    (kk : ∀ r H1 L1, Hp G o s H1 L1 → K r = some z → W p l e R s m args below meth c H1 L1 cells slots Q (F0 m pc' ls (.double r :: rest))) : W p l e R s m args below meth c H locs cells slots Q (F0 m pc ls st0) := by
  obtain ⟨d1, rfl⟩ := d
  obtain ⟨r, g1, g2⟩ := bq_s hf
  have hb := callB_F C F hz hR
  have hb' := F.2.1
  rw [if_neg (by decide)] at hb'
  have hts := C.2.2.2.2.2.1
  obtain ⟨fs, hfs⟩ := hc (o.1 k i) (o.2 k)
  have ha : (WS G o)[adr k i]? = some (rA G k i, .inr (ci, fs)) := (WS_at hk).trans (by unfold cel; rw [hfs])
  have hv := va_recv C.2.2.2.2.2.2.1 P.1 hq ha
  rw [← hy] at hv
  have hp := preG_S C P (As := .ref (rA G k i) :: As)
  have hM' := hM r g1
  unfold Ct at hM'
  rw [hz.1, hz.2] at hM'
  refine r_call0 (va_runV (C := y.cls) (b := rA G k i) (As := As) (rest := rest) ⟨C.1, C.2.1, C.2.2.1, C.2.2.2.2.1, hts⟩ hM' ⟨hb, hts _ hb'.1, hts _ hb'.2⟩ ⟨hp.1, hv, hp.2⟩ rfl hn hsz hst (lv_room hw) d1 hcs) P (fun H1 L1 h1 => kk r H1 L1 h1 g2)
theorem r_qSd (C : Cx G own cc nL ret p s m args meth c) (P : Hp G o s H locs) {idx : Nat} {y : MethodName} {bytes : ByteArray} {maxL n : Nat} {rt : Option FieldType} (F : CallF true own idx y bytes maxL rt n) {rm : Room} (As rest : List Value) {st0 : List Value} {α : Type} {FF : Option UInt64} {K : UInt64 → Option α} {z : α} (hf : bq FF K = some z)
    (hM : ∀ r, FF = some r → Ct l y bytes maxL rt rm G As o (some (.double r)) o) (hz : rm.cells = 0 ∧ rm.slots = 0) (hR : rm.frames + 1 ≤ R.frames ∧ 8 + (maxL + 11) + rm.locals ≤ R.locals) (hcs : cells ≤ R.cells ∧ slots ≤ R.slots) (hn : As.length = n) (hst : st0 = As.reverse ++ rest) (hsz : ls.size = nL) (hw : (rest.map fun v => v.category).sum ≤ 8) (d : Dc cc pc (.invokestatic idx) 3 pc')
    (kk : ∀ r H1 L1, Hp G o s H1 L1 → K r = some z → W p l e R s m args below meth c H1 L1 cells slots Q (F0 m pc' ls (.double r :: rest))) : W p l e R s m args below meth c H locs cells slots Q (F0 m pc ls st0) := by
  obtain ⟨d1, rfl⟩ := d
  obtain ⟨r, g1, g2⟩ := bq_s hf
  have hb := callB_F C F hz hR
  have hb' := F.2.1
  rw [if_pos rfl] at hb'
  have hts := C.2.2.2.2.2.1
  have hp := preG_S C P (As := As)
  have hM' := hM r g1
  unfold Ct at hM'
  rw [hz.1, hz.2] at hM'
  refine r_call0 (va_runS (As := As) (rest := rest) ⟨C.1, C.2.1, C.2.2.1, C.2.2.2.2.1, hts⟩ hM' ⟨hb, hts _ hb'⟩ hp rfl hn hsz hst (lv_room hw) d1 hcs) P (fun H1 L1 h1 => kk r H1 L1 h1 g2)
theorem q_iret (C : Cx G own cc nL (some .int) p s m args meth c) (P : Hp G o s H locs) {rm : Room} (hz : cells = rm.cells ∧ slots = rm.slots) {x r : Int32} (d : Dc cc pc .ireturn 1 pc') (hf : some x = some r) : W p l e R s m args below meth c H locs cells slots (Qm G (some (.int r)) o rm below args s) (F0 m pc ls [.int x]) := r_iret C P hz d (by cases hf; rfl)
theorem q_lret (C : Cx G own cc nL (some .long) p s m args meth c) (P : Hp G o s H locs) {rm : Room} (hz : cells = rm.cells ∧ slots = rm.slots) {x r : Int64} (d : Dc cc pc .lreturn 1 pc') (hf : some x = some r) : W p l e R s m args below meth c H locs cells slots (Qm G (some (.long r)) o rm below args s) (F0 m pc ls [.long x]) := r_lret C P hz d (by cases hf; rfl)
theorem q_dret (C : Cx G own cc nL (some .double) p s m args meth c) (P : Hp G o s H locs) {rm : Room} (hz : cells = rm.cells ∧ slots = rm.slots) {x r : UInt64} (d : Dc cc pc .dreturn 1 pc') (hf : some x = some r) : W p l e R s m args below meth c H locs cells slots (Qm G (some (.double r)) o rm below args s) (F0 m pc ls [.double x]) := r_dret C P hz d (by cases hf; rfl)
theorem q_zret (C : Cx G own cc nL (some .boolean) p s m args meth c) (P : Hp G o s H locs) {rm : Room} (hz : cells = rm.cells ∧ slots = rm.slots) {x r : Int32} (d : Dc cc pc .ireturn 1 pc') (hf : grd (isZ x) (some x) = some r) : W p l e R s m args below meth c H locs cells slots (Qm G (some (.int r)) o rm below args s) (F0 m pc ls [.int x]) := r_zret C P hz d (by obtain ⟨g1, g2⟩ := grd_s hf; cases g2; unfold grd; rw [if_pos g1])
theorem gf_0_0 (C : Cx G own cc nL ret p s m args meth c) (P : Hp G o s H locs) {i idx : Nat} (hk : okb 0 i = true) (hw : Cond.fieldLink own idx "ThawPoints" "state" "LThawPoints$State;" ∈ WT) (d : Dc cc pc (.getfield idx) 3 pc') (kk : W p l e R s m args below meth c H locs cells slots Q (F0 m pc' ls (.ref (rA G 1 0) :: rest))) : W p l e R s m args below meth c H locs cells slots Q (F0 m pc ls (.ref (rA G 0 i) :: rest)) := by
  obtain ⟨d1, rfl⟩ := d
  exact va_get (ref := "ThawPoints") (T := TX5) (N := 5) C.1 C.2.1 C.2.2.2.2.2.1 in_X5 C.2.2.2.2.1 C.2.2.2.2.2.2.1 P.1 (adr 0 i) (WS_at hk) rfl 0 (by decide) (C.2.2.2.2.2.1 _ hw) (fun _ h9 => h9) rfl d1 kk
theorem gf_0_1 (C : Cx G own cc nL ret p s m args meth c) (P : Hp G o s H locs) {i idx : Nat} (hk : okb 0 i = true) (hw : Cond.fieldLink own idx "ThawPoints" "snapshot" "LThawPoints$State;" ∈ WT) (d : Dc cc pc (.getfield idx) 3 pc') (kk : W p l e R s m args below meth c H locs cells slots Q (F0 m pc' ls (.ref (rA G 1 1) :: rest))) : W p l e R s m args below meth c H locs cells slots Q (F0 m pc ls (.ref (rA G 0 i) :: rest)) := by
  obtain ⟨d1, rfl⟩ := d
  exact va_get (ref := "ThawPoints") (T := TX5) (N := 5) C.1 C.2.1 C.2.2.2.2.2.1 in_X5 C.2.2.2.2.1 C.2.2.2.2.2.2.1 P.1 (adr 0 i) (WS_at hk) rfl 1 (by decide) (C.2.2.2.2.2.1 _ hw) (fun _ h9 => h9) rfl d1 kk
theorem gf_0_2 (C : Cx G own cc nL ret p s m args meth c) (P : Hp G o s H locs) {i idx : Nat} (hk : okb 0 i = true) (hw : Cond.fieldLink own idx "ThawPoints" "history" "LThawPoints$History;" ∈ WT) (d : Dc cc pc (.getfield idx) 3 pc') (kk : W p l e R s m args below meth c H locs cells slots Q (F0 m pc' ls (.ref (rA G 14 0) :: rest))) : W p l e R s m args below meth c H locs cells slots Q (F0 m pc ls (.ref (rA G 0 i) :: rest)) := by
  obtain ⟨d1, rfl⟩ := d
  exact va_get (ref := "ThawPoints") (T := TX5) (N := 5) C.1 C.2.1 C.2.2.2.2.2.1 in_X5 C.2.2.2.2.1 C.2.2.2.2.2.2.1 P.1 (adr 0 i) (WS_at hk) rfl 2 (by decide) (C.2.2.2.2.2.1 _ hw) (fun _ h9 => h9) rfl d1 kk
theorem gf_0_3 (C : Cx G own cc nL ret p s m args meth c) (P : Hp G o s H locs) {i idx : Nat} (hk : okb 0 i = true) (hw : Cond.fieldLink own idx "ThawPoints" "works" "LThawPoints$Works;" ∈ WT) (d : Dc cc pc (.getfield idx) 3 pc') (kk : W p l e R s m args below meth c H locs cells slots Q (F0 m pc' ls (.ref (rA G 16 0) :: rest))) : W p l e R s m args below meth c H locs cells slots Q (F0 m pc ls (.ref (rA G 0 i) :: rest)) := by
  obtain ⟨d1, rfl⟩ := d
  exact va_get (ref := "ThawPoints") (T := TX5) (N := 5) C.1 C.2.1 C.2.2.2.2.2.1 in_X5 C.2.2.2.2.1 C.2.2.2.2.2.2.1 P.1 (adr 0 i) (WS_at hk) rfl 3 (by decide) (C.2.2.2.2.2.1 _ hw) (fun _ h9 => h9) rfl d1 kk
theorem gf_0_4 (C : Cx G own cc nL ret p s m args meth c) (P : Hp G o s H locs) {i idx : Nat} (hk : okb 0 i = true) (hw : Cond.fieldLink own idx "ThawPoints" "snapshotTaken" "Z" ∈ WT) (d : Dc cc pc (.getfield idx) 3 pc') (kk : W p l e R s m args below meth c H locs cells slots Q (F0 m pc' ls (.int (rd o 0 i 4) :: rest))) : W p l e R s m args below meth c H locs cells slots Q (F0 m pc ls (.ref (rA G 0 i) :: rest)) := by
  obtain ⟨d1, rfl⟩ := d
  exact va_get (ref := "ThawPoints") (T := TX5) (N := 5) C.1 C.2.1 C.2.2.2.2.2.1 in_X5 C.2.2.2.2.1 C.2.2.2.2.2.2.1 P.1 (adr 0 i) (WS_at hk) rfl 4 (by decide) (C.2.2.2.2.2.1 _ hw) (fun _ h9 => h9) rfl d1 kk
theorem pf_0_4 (C : Cx G own cc nL ret p s m args meth c) (P : Hp G o s H locs) {i idx : Nat} {x : Int32} (hk : okb 0 i = true) (hw : Cond.fieldLink own idx "ThawPoints" "snapshotTaken" "Z" ∈ WT) (d : Dc cc pc (.putfield idx) 3 pc') {α : Type} {K : OM → Option α} {z : α} (hf : grd (isZ x) (bd (wr o 0 i 4 x) K) = some z) (kk : ∀ o1 H1 L1, Hp G o1 s H1 L1 → K o1 = some z → W p l e R s m args below meth c H1 L1 cells slots Q (F0 m pc' ls rest)) : W p l e R s m args below meth c H locs cells slots Q (F0 m pc ls (.int x :: .ref (rA G 0 i) :: rest)) := by
  obtain ⟨d1, rfl⟩ := d
  obtain ⟨g1, g2⟩ := grd_s hf
  have hb : narrow .boolean (.int x) = .int x ∧ fits .boolean (.int x) = true := by
    unfold isZ at g1
    rcases Bool.or_eq_true _ _ ▸ g1 with h | h <;> (rw [of_decide_eq_true h]; exact ⟨rfl, rfl⟩)
  refine va_put (ref := "ThawPoints") (T := TX5) (N := 5) (ty := .boolean) (v := .int x) C.1 C.2.1 C.2.2.2.2.2.1 in_X5 tyX5 tyX5_ok nmX5 C.2.2.2.2.1 C.2.2.2.2.2.2.1 P.1 (WS_D G o) P.2 (adr 0 i) (WS_at hk) rfl 4 (by decide) (C.2.2.2.2.2.1 _ hw) (fun _ h9 => h9) rfl (by decide +kernel) hb.1 hb.2 (Nat.le_of_ble_eq_true rfl) d1 (fun H1 L1 h1 _ h3 => kk (wr o 0 i 4 x) H1 L1 (P.put ?_ h1 h3) g2)
  refine WS_set hk ?_ (fun a b _ hab => by unfold wr; exact cel_wrA hab)
  unfold wr
  rw [cel_self]
  rfl
theorem gf_1_0 (C : Cx G own cc nL ret p s m args meth c) (P : Hp G o s H locs) {i idx : Nat} (hk : okb 1 i = true) (hw : Cond.fieldLink own idx "ThawPoints$State" "year" "I" ∈ WT) (d : Dc cc pc (.getfield idx) 3 pc') (kk : W p l e R s m args below meth c H locs cells slots Q (F0 m pc' ls (.int (rd o 1 i 0) :: rest))) : W p l e R s m args below meth c H locs cells slots Q (F0 m pc ls (.ref (rA G 1 i) :: rest)) := by
  obtain ⟨d1, rfl⟩ := d
  exact va_get (ref := "ThawPoints$State") (T := TX2) (N := 8) C.1 C.2.1 C.2.2.2.2.2.1 in_X2 C.2.2.2.2.1 C.2.2.2.2.2.2.1 P.1 (adr 1 i) (WS_at hk) rfl 0 (by decide) (C.2.2.2.2.2.1 _ hw) (fun _ h9 => h9) rfl d1 kk
theorem pf_1_0 (C : Cx G own cc nL ret p s m args meth c) (P : Hp G o s H locs) {i idx : Nat} {x : Int32} (hk : okb 1 i = true) (hw : Cond.fieldLink own idx "ThawPoints$State" "year" "I" ∈ WT) (d : Dc cc pc (.putfield idx) 3 pc') {β : Type} {K : OM → β} {z : β} (hf : bd (wr o 1 i 0 x) K = z) (kk : ∀ o1 H1 L1, Hp G o1 s H1 L1 → K o1 = z → W p l e R s m args below meth c H1 L1 cells slots Q (F0 m pc' ls rest)) : W p l e R s m args below meth c H locs cells slots Q (F0 m pc ls (.int x :: .ref (rA G 1 i) :: rest)) := by
  obtain ⟨d1, rfl⟩ := d
  refine va_put (ref := "ThawPoints$State") (T := TX2) (N := 8) (ty := .int) (v := .int x) C.1 C.2.1 C.2.2.2.2.2.1 in_X2 tyX2 tyX2_ok nmX2 C.2.2.2.2.1 C.2.2.2.2.2.2.1 P.1 (WS_D G o) P.2 (adr 1 i) (WS_at hk) rfl 0 (by decide) (C.2.2.2.2.2.1 _ hw) (fun _ h9 => h9) rfl (by decide +kernel) rfl rfl (Nat.le_of_ble_eq_true rfl) d1 (fun H1 L1 h1 _ h3 => kk (wr o 1 i 0 x) H1 L1 (P.put ?_ h1 h3) hf)
  refine WS_set hk ?_ (fun a b _ hab => by unfold wr; exact cel_wrA hab)
  unfold wr
  rw [cel_self]
  rfl
theorem gf_1_1 (C : Cx G own cc nL ret p s m args meth c) (P : Hp G o s H locs) {i idx : Nat} (hk : okb 1 i = true) (hw : Cond.fieldLink own idx "ThawPoints$State" "seals" "I" ∈ WT) (d : Dc cc pc (.getfield idx) 3 pc') (kk : W p l e R s m args below meth c H locs cells slots Q (F0 m pc' ls (.int (rd o 1 i 1) :: rest))) : W p l e R s m args below meth c H locs cells slots Q (F0 m pc ls (.ref (rA G 1 i) :: rest)) := by
  obtain ⟨d1, rfl⟩ := d
  exact va_get (ref := "ThawPoints$State") (T := TX2) (N := 8) C.1 C.2.1 C.2.2.2.2.2.1 in_X2 C.2.2.2.2.1 C.2.2.2.2.2.2.1 P.1 (adr 1 i) (WS_at hk) rfl 1 (by decide) (C.2.2.2.2.2.1 _ hw) (fun _ h9 => h9) rfl d1 kk
theorem pf_1_1 (C : Cx G own cc nL ret p s m args meth c) (P : Hp G o s H locs) {i idx : Nat} {x : Int32} (hk : okb 1 i = true) (hw : Cond.fieldLink own idx "ThawPoints$State" "seals" "I" ∈ WT) (d : Dc cc pc (.putfield idx) 3 pc') {β : Type} {K : OM → β} {z : β} (hf : bd (wr o 1 i 1 x) K = z) (kk : ∀ o1 H1 L1, Hp G o1 s H1 L1 → K o1 = z → W p l e R s m args below meth c H1 L1 cells slots Q (F0 m pc' ls rest)) : W p l e R s m args below meth c H locs cells slots Q (F0 m pc ls (.int x :: .ref (rA G 1 i) :: rest)) := by
  obtain ⟨d1, rfl⟩ := d
  refine va_put (ref := "ThawPoints$State") (T := TX2) (N := 8) (ty := .int) (v := .int x) C.1 C.2.1 C.2.2.2.2.2.1 in_X2 tyX2 tyX2_ok nmX2 C.2.2.2.2.1 C.2.2.2.2.2.2.1 P.1 (WS_D G o) P.2 (adr 1 i) (WS_at hk) rfl 1 (by decide) (C.2.2.2.2.2.1 _ hw) (fun _ h9 => h9) rfl (by decide +kernel) rfl rfl (Nat.le_of_ble_eq_true rfl) d1 (fun H1 L1 h1 _ h3 => kk (wr o 1 i 1 x) H1 L1 (P.put ?_ h1 h3) hf)
  refine WS_set hk ?_ (fun a b _ hab => by unfold wr; exact cel_wrA hab)
  unfold wr
  rw [cel_self]
  rfl
theorem gf_1_2 (C : Cx G own cc nL ret p s m args meth c) (P : Hp G o s H locs) {i idx : Nat} (hk : okb 1 i = true) (hw : Cond.fieldLink own idx "ThawPoints$State" "size" "I" ∈ WT) (d : Dc cc pc (.getfield idx) 3 pc') (kk : W p l e R s m args below meth c H locs cells slots Q (F0 m pc' ls (.int (rd o 1 i 2) :: rest))) : W p l e R s m args below meth c H locs cells slots Q (F0 m pc ls (.ref (rA G 1 i) :: rest)) := by
  obtain ⟨d1, rfl⟩ := d
  exact va_get (ref := "ThawPoints$State") (T := TX2) (N := 8) C.1 C.2.1 C.2.2.2.2.2.1 in_X2 C.2.2.2.2.1 C.2.2.2.2.2.2.1 P.1 (adr 1 i) (WS_at hk) rfl 2 (by decide) (C.2.2.2.2.2.1 _ hw) (fun _ h9 => h9) rfl d1 kk
theorem pf_1_2 (C : Cx G own cc nL ret p s m args meth c) (P : Hp G o s H locs) {i idx : Nat} {x : Int32} (hk : okb 1 i = true) (hw : Cond.fieldLink own idx "ThawPoints$State" "size" "I" ∈ WT) (d : Dc cc pc (.putfield idx) 3 pc') {β : Type} {K : OM → β} {z : β} (hf : bd (wr o 1 i 2 x) K = z) (kk : ∀ o1 H1 L1, Hp G o1 s H1 L1 → K o1 = z → W p l e R s m args below meth c H1 L1 cells slots Q (F0 m pc' ls rest)) : W p l e R s m args below meth c H locs cells slots Q (F0 m pc ls (.int x :: .ref (rA G 1 i) :: rest)) := by
  obtain ⟨d1, rfl⟩ := d
  refine va_put (ref := "ThawPoints$State") (T := TX2) (N := 8) (ty := .int) (v := .int x) C.1 C.2.1 C.2.2.2.2.2.1 in_X2 tyX2 tyX2_ok nmX2 C.2.2.2.2.1 C.2.2.2.2.2.2.1 P.1 (WS_D G o) P.2 (adr 1 i) (WS_at hk) rfl 2 (by decide) (C.2.2.2.2.2.1 _ hw) (fun _ h9 => h9) rfl (by decide +kernel) rfl rfl (Nat.le_of_ble_eq_true rfl) d1 (fun H1 L1 h1 _ h3 => kk (wr o 1 i 2 x) H1 L1 (P.put ?_ h1 h3) hf)
  refine WS_set hk ?_ (fun a b _ hab => by unfold wr; exact cel_wrA hab)
  unfold wr
  rw [cel_self]
  rfl
theorem gf_1_3 (C : Cx G own cc nL ret p s m args meth c) (P : Hp G o s H locs) {i idx : Nat} (hk : okb 1 i = true) (hw : Cond.fieldLink own idx "ThawPoints$State" "stopPart" "I" ∈ WT) (d : Dc cc pc (.getfield idx) 3 pc') (kk : W p l e R s m args below meth c H locs cells slots Q (F0 m pc' ls (.int (rd o 1 i 3) :: rest))) : W p l e R s m args below meth c H locs cells slots Q (F0 m pc ls (.ref (rA G 1 i) :: rest)) := by
  obtain ⟨d1, rfl⟩ := d
  exact va_get (ref := "ThawPoints$State") (T := TX2) (N := 8) C.1 C.2.1 C.2.2.2.2.2.1 in_X2 C.2.2.2.2.1 C.2.2.2.2.2.2.1 P.1 (adr 1 i) (WS_at hk) rfl 3 (by decide) (C.2.2.2.2.2.1 _ hw) (fun _ h9 => h9) rfl d1 kk
theorem pf_1_3 (C : Cx G own cc nL ret p s m args meth c) (P : Hp G o s H locs) {i idx : Nat} {x : Int32} (hk : okb 1 i = true) (hw : Cond.fieldLink own idx "ThawPoints$State" "stopPart" "I" ∈ WT) (d : Dc cc pc (.putfield idx) 3 pc') {β : Type} {K : OM → β} {z : β} (hf : bd (wr o 1 i 3 x) K = z) (kk : ∀ o1 H1 L1, Hp G o1 s H1 L1 → K o1 = z → W p l e R s m args below meth c H1 L1 cells slots Q (F0 m pc' ls rest)) : W p l e R s m args below meth c H locs cells slots Q (F0 m pc ls (.int x :: .ref (rA G 1 i) :: rest)) := by
  obtain ⟨d1, rfl⟩ := d
  refine va_put (ref := "ThawPoints$State") (T := TX2) (N := 8) (ty := .int) (v := .int x) C.1 C.2.1 C.2.2.2.2.2.1 in_X2 tyX2 tyX2_ok nmX2 C.2.2.2.2.1 C.2.2.2.2.2.2.1 P.1 (WS_D G o) P.2 (adr 1 i) (WS_at hk) rfl 3 (by decide) (C.2.2.2.2.2.1 _ hw) (fun _ h9 => h9) rfl (by decide +kernel) rfl rfl (Nat.le_of_ble_eq_true rfl) d1 (fun H1 L1 h1 _ h3 => kk (wr o 1 i 3 x) H1 L1 (P.put ?_ h1 h3) hf)
  refine WS_set hk ?_ (fun a b _ hab => by unfold wr; exact cel_wrA hab)
  unfold wr
  rw [cel_self]
  rfl
theorem gf_1_4 (C : Cx G own cc nL ret p s m args meth c) (P : Hp G o s H locs) {i idx : Nat} (hk : okb 1 i = true) (hw : Cond.fieldLink own idx "ThawPoints$State" "stopReason" "I" ∈ WT) (d : Dc cc pc (.getfield idx) 3 pc') (kk : W p l e R s m args below meth c H locs cells slots Q (F0 m pc' ls (.int (rd o 1 i 4) :: rest))) : W p l e R s m args below meth c H locs cells slots Q (F0 m pc ls (.ref (rA G 1 i) :: rest)) := by
  obtain ⟨d1, rfl⟩ := d
  exact va_get (ref := "ThawPoints$State") (T := TX2) (N := 8) C.1 C.2.1 C.2.2.2.2.2.1 in_X2 C.2.2.2.2.1 C.2.2.2.2.2.2.1 P.1 (adr 1 i) (WS_at hk) rfl 4 (by decide) (C.2.2.2.2.2.1 _ hw) (fun _ h9 => h9) rfl d1 kk
theorem pf_1_4 (C : Cx G own cc nL ret p s m args meth c) (P : Hp G o s H locs) {i idx : Nat} {x : Int32} (hk : okb 1 i = true) (hw : Cond.fieldLink own idx "ThawPoints$State" "stopReason" "I" ∈ WT) (d : Dc cc pc (.putfield idx) 3 pc') {β : Type} {K : OM → β} {z : β} (hf : bd (wr o 1 i 4 x) K = z) (kk : ∀ o1 H1 L1, Hp G o1 s H1 L1 → K o1 = z → W p l e R s m args below meth c H1 L1 cells slots Q (F0 m pc' ls rest)) : W p l e R s m args below meth c H locs cells slots Q (F0 m pc ls (.int x :: .ref (rA G 1 i) :: rest)) := by
  obtain ⟨d1, rfl⟩ := d
  refine va_put (ref := "ThawPoints$State") (T := TX2) (N := 8) (ty := .int) (v := .int x) C.1 C.2.1 C.2.2.2.2.2.1 in_X2 tyX2 tyX2_ok nmX2 C.2.2.2.2.1 C.2.2.2.2.2.2.1 P.1 (WS_D G o) P.2 (adr 1 i) (WS_at hk) rfl 4 (by decide) (C.2.2.2.2.2.1 _ hw) (fun _ h9 => h9) rfl (by decide +kernel) rfl rfl (Nat.le_of_ble_eq_true rfl) d1 (fun H1 L1 h1 _ h3 => kk (wr o 1 i 4 x) H1 L1 (P.put ?_ h1 h3) hf)
  refine WS_set hk ?_ (fun a b _ hab => by unfold wr; exact cel_wrA hab)
  unfold wr
  rw [cel_self]
  rfl
theorem gf_1_5 (C : Cx G own cc nL ret p s m args meth c) (P : Hp G o s H locs) {i idx : Nat} (hk : okb 1 i = true) (hw : Cond.fieldLink own idx "ThawPoints$State" "baths" "[I" ∈ WT) (d : Dc cc pc (.getfield idx) 3 pc') (kk : W p l e R s m args below meth c H locs cells slots Q (F0 m pc' ls (.ref (rA G 2 i) :: rest))) : W p l e R s m args below meth c H locs cells slots Q (F0 m pc ls (.ref (rA G 1 i) :: rest)) := by
  obtain ⟨d1, rfl⟩ := d
  exact va_get (ref := "ThawPoints$State") (T := TX2) (N := 8) C.1 C.2.1 C.2.2.2.2.2.1 in_X2 C.2.2.2.2.1 C.2.2.2.2.2.2.1 P.1 (adr 1 i) (WS_at hk) rfl 5 (by decide) (C.2.2.2.2.2.1 _ hw) (fun _ h9 => h9) rfl d1 kk
theorem gf_1_6 (C : Cx G own cc nL ret p s m args meth c) (P : Hp G o s H locs) {i idx : Nat} (hk : okb 1 i = true) (hw : Cond.fieldLink own idx "ThawPoints$State" "settings" "[I" ∈ WT) (d : Dc cc pc (.getfield idx) 3 pc') (kk : W p l e R s m args below meth c H locs cells slots Q (F0 m pc' ls (.ref (rA G 3 i) :: rest))) : W p l e R s m args below meth c H locs cells slots Q (F0 m pc ls (.ref (rA G 1 i) :: rest)) := by
  obtain ⟨d1, rfl⟩ := d
  exact va_get (ref := "ThawPoints$State") (T := TX2) (N := 8) C.1 C.2.1 C.2.2.2.2.2.1 in_X2 C.2.2.2.2.1 C.2.2.2.2.2.2.1 P.1 (adr 1 i) (WS_at hk) rfl 6 (by decide) (C.2.2.2.2.2.1 _ hw) (fun _ h9 => h9) rfl d1 kk
theorem gf_1_7 (C : Cx G own cc nL ret p s m args meth c) (P : Hp G o s H locs) {i idx : Nat} (hk : okb 1 i = true) (hw : Cond.fieldLink own idx "ThawPoints$State" "rows" "[LThawPoints$Thermometer;" ∈ WT) (d : Dc cc pc (.getfield idx) 3 pc') (kk : W p l e R s m args below meth c H locs cells slots Q (F0 m pc' ls (.ref (rA G 4 i) :: rest))) : W p l e R s m args below meth c H locs cells slots Q (F0 m pc ls (.ref (rA G 1 i) :: rest)) := by
  obtain ⟨d1, rfl⟩ := d
  exact va_get (ref := "ThawPoints$State") (T := TX2) (N := 8) C.1 C.2.1 C.2.2.2.2.2.1 in_X2 C.2.2.2.2.1 C.2.2.2.2.2.2.1 P.1 (adr 1 i) (WS_at hk) rfl 7 (by decide) (C.2.2.2.2.2.1 _ hw) (fun _ h9 => h9) rfl d1 kk
theorem gf_5_0 (C : Cx G own cc nL ret p s m args meth c) (P : Hp G o s H locs) {i idx : Nat} (hk : okb 5 i = true) (hw : Cond.fieldLink own idx "ThawPoints$Thermometer" "zero" "I" ∈ WT) (d : Dc cc pc (.getfield idx) 3 pc') (kk : W p l e R s m args below meth c H locs cells slots Q (F0 m pc' ls (.int (rd o 5 i 0) :: rest))) : W p l e R s m args below meth c H locs cells slots Q (F0 m pc ls (.ref (rA G 5 i) :: rest)) := by
  obtain ⟨d1, rfl⟩ := d
  exact va_get (ref := "ThawPoints$Thermometer") (T := TX3) (N := 8) C.1 C.2.1 C.2.2.2.2.2.1 in_X3 C.2.2.2.2.1 C.2.2.2.2.2.2.1 P.1 (adr 5 i) (WS_at hk) rfl 0 (by decide) (C.2.2.2.2.2.1 _ hw) (fun _ h9 => h9) rfl d1 kk
theorem pf_5_0 (C : Cx G own cc nL ret p s m args meth c) (P : Hp G o s H locs) {i idx : Nat} {x : Int32} (hk : okb 5 i = true) (hw : Cond.fieldLink own idx "ThawPoints$Thermometer" "zero" "I" ∈ WT) (d : Dc cc pc (.putfield idx) 3 pc') {β : Type} {K : OM → β} {z : β} (hf : bd (wr o 5 i 0 x) K = z) (kk : ∀ o1 H1 L1, Hp G o1 s H1 L1 → K o1 = z → W p l e R s m args below meth c H1 L1 cells slots Q (F0 m pc' ls rest)) : W p l e R s m args below meth c H locs cells slots Q (F0 m pc ls (.int x :: .ref (rA G 5 i) :: rest)) := by
  obtain ⟨d1, rfl⟩ := d
  refine va_put (ref := "ThawPoints$Thermometer") (T := TX3) (N := 8) (ty := .int) (v := .int x) C.1 C.2.1 C.2.2.2.2.2.1 in_X3 tyX3 tyX3_ok nmX3 C.2.2.2.2.1 C.2.2.2.2.2.2.1 P.1 (WS_D G o) P.2 (adr 5 i) (WS_at hk) rfl 0 (by decide) (C.2.2.2.2.2.1 _ hw) (fun _ h9 => h9) rfl (by decide +kernel) rfl rfl (Nat.le_of_ble_eq_true rfl) d1 (fun H1 L1 h1 _ h3 => kk (wr o 5 i 0 x) H1 L1 (P.put ?_ h1 h3) hf)
  refine WS_set hk ?_ (fun a b _ hab => by unfold wr; exact cel_wrA hab)
  unfold wr
  rw [cel_self]
  rfl
theorem gf_5_1 (C : Cx G own cc nL ret p s m args meth c) (P : Hp G o s H locs) {i idx : Nat} (hk : okb 5 i = true) (hw : Cond.fieldLink own idx "ThawPoints$Thermometer" "gain" "I" ∈ WT) (d : Dc cc pc (.getfield idx) 3 pc') (kk : W p l e R s m args below meth c H locs cells slots Q (F0 m pc' ls (.int (rd o 5 i 1) :: rest))) : W p l e R s m args below meth c H locs cells slots Q (F0 m pc ls (.ref (rA G 5 i) :: rest)) := by
  obtain ⟨d1, rfl⟩ := d
  exact va_get (ref := "ThawPoints$Thermometer") (T := TX3) (N := 8) C.1 C.2.1 C.2.2.2.2.2.1 in_X3 C.2.2.2.2.1 C.2.2.2.2.2.2.1 P.1 (adr 5 i) (WS_at hk) rfl 1 (by decide) (C.2.2.2.2.2.1 _ hw) (fun _ h9 => h9) rfl d1 kk
theorem pf_5_1 (C : Cx G own cc nL ret p s m args meth c) (P : Hp G o s H locs) {i idx : Nat} {x : Int32} (hk : okb 5 i = true) (hw : Cond.fieldLink own idx "ThawPoints$Thermometer" "gain" "I" ∈ WT) (d : Dc cc pc (.putfield idx) 3 pc') {β : Type} {K : OM → β} {z : β} (hf : bd (wr o 5 i 1 x) K = z) (kk : ∀ o1 H1 L1, Hp G o1 s H1 L1 → K o1 = z → W p l e R s m args below meth c H1 L1 cells slots Q (F0 m pc' ls rest)) : W p l e R s m args below meth c H locs cells slots Q (F0 m pc ls (.int x :: .ref (rA G 5 i) :: rest)) := by
  obtain ⟨d1, rfl⟩ := d
  refine va_put (ref := "ThawPoints$Thermometer") (T := TX3) (N := 8) (ty := .int) (v := .int x) C.1 C.2.1 C.2.2.2.2.2.1 in_X3 tyX3 tyX3_ok nmX3 C.2.2.2.2.1 C.2.2.2.2.2.2.1 P.1 (WS_D G o) P.2 (adr 5 i) (WS_at hk) rfl 1 (by decide) (C.2.2.2.2.2.1 _ hw) (fun _ h9 => h9) rfl (by decide +kernel) rfl rfl (Nat.le_of_ble_eq_true rfl) d1 (fun H1 L1 h1 _ h3 => kk (wr o 5 i 1 x) H1 L1 (P.put ?_ h1 h3) hf)
  refine WS_set hk ?_ (fun a b _ hab => by unfold wr; exact cel_wrA hab)
  unfold wr
  rw [cel_self]
  rfl
theorem gf_5_2 (C : Cx G own cc nL ret p s m args meth c) (P : Hp G o s H locs) {i idx : Nat} (hk : okb 5 i = true) (hw : Cond.fieldLink own idx "ThawPoints$Thermometer" "batch" "I" ∈ WT) (d : Dc cc pc (.getfield idx) 3 pc') (kk : W p l e R s m args below meth c H locs cells slots Q (F0 m pc' ls (.int (rd o 5 i 2) :: rest))) : W p l e R s m args below meth c H locs cells slots Q (F0 m pc ls (.ref (rA G 5 i) :: rest)) := by
  obtain ⟨d1, rfl⟩ := d
  exact va_get (ref := "ThawPoints$Thermometer") (T := TX3) (N := 8) C.1 C.2.1 C.2.2.2.2.2.1 in_X3 C.2.2.2.2.1 C.2.2.2.2.2.2.1 P.1 (adr 5 i) (WS_at hk) rfl 2 (by decide) (C.2.2.2.2.2.1 _ hw) (fun _ h9 => h9) rfl d1 kk
theorem pf_5_2 (C : Cx G own cc nL ret p s m args meth c) (P : Hp G o s H locs) {i idx : Nat} {x : Int32} (hk : okb 5 i = true) (hw : Cond.fieldLink own idx "ThawPoints$Thermometer" "batch" "I" ∈ WT) (d : Dc cc pc (.putfield idx) 3 pc') {β : Type} {K : OM → β} {z : β} (hf : bd (wr o 5 i 2 x) K = z) (kk : ∀ o1 H1 L1, Hp G o1 s H1 L1 → K o1 = z → W p l e R s m args below meth c H1 L1 cells slots Q (F0 m pc' ls rest)) : W p l e R s m args below meth c H locs cells slots Q (F0 m pc ls (.int x :: .ref (rA G 5 i) :: rest)) := by
  obtain ⟨d1, rfl⟩ := d
  refine va_put (ref := "ThawPoints$Thermometer") (T := TX3) (N := 8) (ty := .int) (v := .int x) C.1 C.2.1 C.2.2.2.2.2.1 in_X3 tyX3 tyX3_ok nmX3 C.2.2.2.2.1 C.2.2.2.2.2.2.1 P.1 (WS_D G o) P.2 (adr 5 i) (WS_at hk) rfl 2 (by decide) (C.2.2.2.2.2.1 _ hw) (fun _ h9 => h9) rfl (by decide +kernel) rfl rfl (Nat.le_of_ble_eq_true rfl) d1 (fun H1 L1 h1 _ h3 => kk (wr o 5 i 2 x) H1 L1 (P.put ?_ h1 h3) hf)
  refine WS_set hk ?_ (fun a b _ hab => by unfold wr; exact cel_wrA hab)
  unfold wr
  rw [cel_self]
  rfl
theorem gf_5_3 (C : Cx G own cc nL ret p s m args meth c) (P : Hp G o s H locs) {i idx : Nat} (hk : okb 5 i = true) (hw : Cond.fieldLink own idx "ThawPoints$Thermometer" "age" "I" ∈ WT) (d : Dc cc pc (.getfield idx) 3 pc') (kk : W p l e R s m args below meth c H locs cells slots Q (F0 m pc' ls (.int (rd o 5 i 3) :: rest))) : W p l e R s m args below meth c H locs cells slots Q (F0 m pc ls (.ref (rA G 5 i) :: rest)) := by
  obtain ⟨d1, rfl⟩ := d
  exact va_get (ref := "ThawPoints$Thermometer") (T := TX3) (N := 8) C.1 C.2.1 C.2.2.2.2.2.1 in_X3 C.2.2.2.2.1 C.2.2.2.2.2.2.1 P.1 (adr 5 i) (WS_at hk) rfl 3 (by decide) (C.2.2.2.2.2.1 _ hw) (fun _ h9 => h9) rfl d1 kk
theorem pf_5_3 (C : Cx G own cc nL ret p s m args meth c) (P : Hp G o s H locs) {i idx : Nat} {x : Int32} (hk : okb 5 i = true) (hw : Cond.fieldLink own idx "ThawPoints$Thermometer" "age" "I" ∈ WT) (d : Dc cc pc (.putfield idx) 3 pc') {β : Type} {K : OM → β} {z : β} (hf : bd (wr o 5 i 3 x) K = z) (kk : ∀ o1 H1 L1, Hp G o1 s H1 L1 → K o1 = z → W p l e R s m args below meth c H1 L1 cells slots Q (F0 m pc' ls rest)) : W p l e R s m args below meth c H locs cells slots Q (F0 m pc ls (.int x :: .ref (rA G 5 i) :: rest)) := by
  obtain ⟨d1, rfl⟩ := d
  refine va_put (ref := "ThawPoints$Thermometer") (T := TX3) (N := 8) (ty := .int) (v := .int x) C.1 C.2.1 C.2.2.2.2.2.1 in_X3 tyX3 tyX3_ok nmX3 C.2.2.2.2.1 C.2.2.2.2.2.2.1 P.1 (WS_D G o) P.2 (adr 5 i) (WS_at hk) rfl 3 (by decide) (C.2.2.2.2.2.1 _ hw) (fun _ h9 => h9) rfl (by decide +kernel) rfl rfl (Nat.le_of_ble_eq_true rfl) d1 (fun H1 L1 h1 _ h3 => kk (wr o 5 i 3 x) H1 L1 (P.put ?_ h1 h3) hf)
  refine WS_set hk ?_ (fun a b _ hab => by unfold wr; exact cel_wrA hab)
  unfold wr
  rw [cel_self]
  rfl
theorem gf_5_4 (C : Cx G own cc nL ret p s m args meth c) (P : Hp G o s H locs) {i idx : Nat} (hk : okb 5 i = true) (hw : Cond.fieldLink own idx "ThawPoints$Thermometer" "crept" "I" ∈ WT) (d : Dc cc pc (.getfield idx) 3 pc') (kk : W p l e R s m args below meth c H locs cells slots Q (F0 m pc' ls (.int (rd o 5 i 4) :: rest))) : W p l e R s m args below meth c H locs cells slots Q (F0 m pc ls (.ref (rA G 5 i) :: rest)) := by
  obtain ⟨d1, rfl⟩ := d
  exact va_get (ref := "ThawPoints$Thermometer") (T := TX3) (N := 8) C.1 C.2.1 C.2.2.2.2.2.1 in_X3 C.2.2.2.2.1 C.2.2.2.2.2.2.1 P.1 (adr 5 i) (WS_at hk) rfl 4 (by decide) (C.2.2.2.2.2.1 _ hw) (fun _ h9 => h9) rfl d1 kk
theorem pf_5_4 (C : Cx G own cc nL ret p s m args meth c) (P : Hp G o s H locs) {i idx : Nat} {x : Int32} (hk : okb 5 i = true) (hw : Cond.fieldLink own idx "ThawPoints$Thermometer" "crept" "I" ∈ WT) (d : Dc cc pc (.putfield idx) 3 pc') {β : Type} {K : OM → β} {z : β} (hf : bd (wr o 5 i 4 x) K = z) (kk : ∀ o1 H1 L1, Hp G o1 s H1 L1 → K o1 = z → W p l e R s m args below meth c H1 L1 cells slots Q (F0 m pc' ls rest)) : W p l e R s m args below meth c H locs cells slots Q (F0 m pc ls (.int x :: .ref (rA G 5 i) :: rest)) := by
  obtain ⟨d1, rfl⟩ := d
  refine va_put (ref := "ThawPoints$Thermometer") (T := TX3) (N := 8) (ty := .int) (v := .int x) C.1 C.2.1 C.2.2.2.2.2.1 in_X3 tyX3 tyX3_ok nmX3 C.2.2.2.2.1 C.2.2.2.2.2.2.1 P.1 (WS_D G o) P.2 (adr 5 i) (WS_at hk) rfl 4 (by decide) (C.2.2.2.2.2.1 _ hw) (fun _ h9 => h9) rfl (by decide +kernel) rfl rfl (Nat.le_of_ble_eq_true rfl) d1 (fun H1 L1 h1 _ h3 => kk (wr o 5 i 4 x) H1 L1 (P.put ?_ h1 h3) hf)
  refine WS_set hk ?_ (fun a b _ hab => by unfold wr; exact cel_wrA hab)
  unfold wr
  rw [cel_self]
  rfl
theorem gf_5_5 (C : Cx G own cc nL ret p s m args meth c) (P : Hp G o s H locs) {i idx : Nat} (hk : okb 5 i = true) (hw : Cond.fieldLink own idx "ThawPoints$Thermometer" "seal" "I" ∈ WT) (d : Dc cc pc (.getfield idx) 3 pc') (kk : W p l e R s m args below meth c H locs cells slots Q (F0 m pc' ls (.int (rd o 5 i 5) :: rest))) : W p l e R s m args below meth c H locs cells slots Q (F0 m pc ls (.ref (rA G 5 i) :: rest)) := by
  obtain ⟨d1, rfl⟩ := d
  exact va_get (ref := "ThawPoints$Thermometer") (T := TX3) (N := 8) C.1 C.2.1 C.2.2.2.2.2.1 in_X3 C.2.2.2.2.1 C.2.2.2.2.2.2.1 P.1 (adr 5 i) (WS_at hk) rfl 5 (by decide) (C.2.2.2.2.2.1 _ hw) (fun _ h9 => h9) rfl d1 kk
theorem pf_5_5 (C : Cx G own cc nL ret p s m args meth c) (P : Hp G o s H locs) {i idx : Nat} {x : Int32} (hk : okb 5 i = true) (hw : Cond.fieldLink own idx "ThawPoints$Thermometer" "seal" "I" ∈ WT) (d : Dc cc pc (.putfield idx) 3 pc') {β : Type} {K : OM → β} {z : β} (hf : bd (wr o 5 i 5 x) K = z) (kk : ∀ o1 H1 L1, Hp G o1 s H1 L1 → K o1 = z → W p l e R s m args below meth c H1 L1 cells slots Q (F0 m pc' ls rest)) : W p l e R s m args below meth c H locs cells slots Q (F0 m pc ls (.int x :: .ref (rA G 5 i) :: rest)) := by
  obtain ⟨d1, rfl⟩ := d
  refine va_put (ref := "ThawPoints$Thermometer") (T := TX3) (N := 8) (ty := .int) (v := .int x) C.1 C.2.1 C.2.2.2.2.2.1 in_X3 tyX3 tyX3_ok nmX3 C.2.2.2.2.1 C.2.2.2.2.2.2.1 P.1 (WS_D G o) P.2 (adr 5 i) (WS_at hk) rfl 5 (by decide) (C.2.2.2.2.2.1 _ hw) (fun _ h9 => h9) rfl (by decide +kernel) rfl rfl (Nat.le_of_ble_eq_true rfl) d1 (fun H1 L1 h1 _ h3 => kk (wr o 5 i 5 x) H1 L1 (P.put ?_ h1 h3) hf)
  refine WS_set hk ?_ (fun a b _ hab => by unfold wr; exact cel_wrA hab)
  unfold wr
  rw [cel_self]
  rfl
theorem gf_5_6 (C : Cx G own cc nL ret p s m args meth c) (P : Hp G o s H locs) {i idx : Nat} (hk : okb 5 i = true) (hw : Cond.fieldLink own idx "ThawPoints$Thermometer" "creptAtSeal" "I" ∈ WT) (d : Dc cc pc (.getfield idx) 3 pc') (kk : W p l e R s m args below meth c H locs cells slots Q (F0 m pc' ls (.int (rd o 5 i 6) :: rest))) : W p l e R s m args below meth c H locs cells slots Q (F0 m pc ls (.ref (rA G 5 i) :: rest)) := by
  obtain ⟨d1, rfl⟩ := d
  exact va_get (ref := "ThawPoints$Thermometer") (T := TX3) (N := 8) C.1 C.2.1 C.2.2.2.2.2.1 in_X3 C.2.2.2.2.1 C.2.2.2.2.2.2.1 P.1 (adr 5 i) (WS_at hk) rfl 6 (by decide) (C.2.2.2.2.2.1 _ hw) (fun _ h9 => h9) rfl d1 kk
theorem pf_5_6 (C : Cx G own cc nL ret p s m args meth c) (P : Hp G o s H locs) {i idx : Nat} {x : Int32} (hk : okb 5 i = true) (hw : Cond.fieldLink own idx "ThawPoints$Thermometer" "creptAtSeal" "I" ∈ WT) (d : Dc cc pc (.putfield idx) 3 pc') {β : Type} {K : OM → β} {z : β} (hf : bd (wr o 5 i 6 x) K = z) (kk : ∀ o1 H1 L1, Hp G o1 s H1 L1 → K o1 = z → W p l e R s m args below meth c H1 L1 cells slots Q (F0 m pc' ls rest)) : W p l e R s m args below meth c H locs cells slots Q (F0 m pc ls (.int x :: .ref (rA G 5 i) :: rest)) := by
  obtain ⟨d1, rfl⟩ := d
  refine va_put (ref := "ThawPoints$Thermometer") (T := TX3) (N := 8) (ty := .int) (v := .int x) C.1 C.2.1 C.2.2.2.2.2.1 in_X3 tyX3 tyX3_ok nmX3 C.2.2.2.2.1 C.2.2.2.2.2.2.1 P.1 (WS_D G o) P.2 (adr 5 i) (WS_at hk) rfl 6 (by decide) (C.2.2.2.2.2.1 _ hw) (fun _ h9 => h9) rfl (by decide +kernel) rfl rfl (Nat.le_of_ble_eq_true rfl) d1 (fun H1 L1 h1 _ h3 => kk (wr o 5 i 6 x) H1 L1 (P.put ?_ h1 h3) hf)
  refine WS_set hk ?_ (fun a b _ hab => by unfold wr; exact cel_wrA hab)
  unfold wr
  rw [cel_self]
  rfl
theorem gf_5_7 (C : Cx G own cc nL ret p s m args meth c) (P : Hp G o s H locs) {i idx : Nat} (hk : okb 5 i = true) (hw : Cond.fieldLink own idx "ThawPoints$Thermometer" "points" "LThawPoints$Points;" ∈ WT) (d : Dc cc pc (.getfield idx) 3 pc') (kk : W p l e R s m args below meth c H locs cells slots Q (F0 m pc' ls (.ref (rA G 6 i) :: rest))) : W p l e R s m args below meth c H locs cells slots Q (F0 m pc ls (.ref (rA G 5 i) :: rest)) := by
  obtain ⟨d1, rfl⟩ := d
  exact va_get (ref := "ThawPoints$Thermometer") (T := TX3) (N := 8) C.1 C.2.1 C.2.2.2.2.2.1 in_X3 C.2.2.2.2.1 C.2.2.2.2.2.2.1 P.1 (adr 5 i) (WS_at hk) rfl 7 (by decide) (C.2.2.2.2.2.1 _ hw) (fun _ h9 => h9) rfl d1 kk
theorem gf_6_0 (C : Cx G own cc nL ret p s m args meth c) (P : Hp G o s H locs) {i idx : Nat} (hk : okb 6 i = true) (hw : Cond.fieldLink own idx "ThawPoints$Points" "size" "I" ∈ WT) (d : Dc cc pc (.getfield idx) 3 pc') (kk : W p l e R s m args below meth c H locs cells slots Q (F0 m pc' ls (.int (rd o 6 i 0) :: rest))) : W p l e R s m args below meth c H locs cells slots Q (F0 m pc ls (.ref (rA G 6 i) :: rest)) := by
  obtain ⟨d1, rfl⟩ := d
  exact va_get (ref := "ThawPoints$Points") (T := TX1) (N := 8) C.1 C.2.1 C.2.2.2.2.2.1 in_X1 C.2.2.2.2.1 C.2.2.2.2.2.2.1 P.1 (adr 6 i) (WS_at hk) rfl 0 (by decide) (C.2.2.2.2.2.1 _ hw) (fun _ h9 => h9) rfl d1 kk
theorem pf_6_0 (C : Cx G own cc nL ret p s m args meth c) (P : Hp G o s H locs) {i idx : Nat} {x : Int32} (hk : okb 6 i = true) (hw : Cond.fieldLink own idx "ThawPoints$Points" "size" "I" ∈ WT) (d : Dc cc pc (.putfield idx) 3 pc') {β : Type} {K : OM → β} {z : β} (hf : bd (wr o 6 i 0 x) K = z) (kk : ∀ o1 H1 L1, Hp G o1 s H1 L1 → K o1 = z → W p l e R s m args below meth c H1 L1 cells slots Q (F0 m pc' ls rest)) : W p l e R s m args below meth c H locs cells slots Q (F0 m pc ls (.int x :: .ref (rA G 6 i) :: rest)) := by
  obtain ⟨d1, rfl⟩ := d
  refine va_put (ref := "ThawPoints$Points") (T := TX1) (N := 8) (ty := .int) (v := .int x) C.1 C.2.1 C.2.2.2.2.2.1 in_X1 tyX1 tyX1_ok nmX1 C.2.2.2.2.1 C.2.2.2.2.2.2.1 P.1 (WS_D G o) P.2 (adr 6 i) (WS_at hk) rfl 0 (by decide) (C.2.2.2.2.2.1 _ hw) (fun _ h9 => h9) rfl (by decide +kernel) rfl rfl (Nat.le_of_ble_eq_true rfl) d1 (fun H1 L1 h1 _ h3 => kk (wr o 6 i 0 x) H1 L1 (P.put ?_ h1 h3) hf)
  refine WS_set hk ?_ (fun a b _ hab => by unfold wr; exact cel_wrA hab)
  unfold wr
  rw [cel_self]
  rfl
theorem gf_6_1 (C : Cx G own cc nL ret p s m args meth c) (P : Hp G o s H locs) {i idx : Nat} (hk : okb 6 i = true) (hw : Cond.fieldLink own idx "ThawPoints$Points" "reading" "[I" ∈ WT) (d : Dc cc pc (.getfield idx) 3 pc') (kk : W p l e R s m args below meth c H locs cells slots Q (F0 m pc' ls (.ref (rA G 7 i) :: rest))) : W p l e R s m args below meth c H locs cells slots Q (F0 m pc ls (.ref (rA G 6 i) :: rest)) := by
  obtain ⟨d1, rfl⟩ := d
  exact va_get (ref := "ThawPoints$Points") (T := TX1) (N := 8) C.1 C.2.1 C.2.2.2.2.2.1 in_X1 C.2.2.2.2.1 C.2.2.2.2.2.2.1 P.1 (adr 6 i) (WS_at hk) rfl 1 (by decide) (C.2.2.2.2.2.1 _ hw) (fun _ h9 => h9) rfl d1 kk
theorem gf_6_2 (C : Cx G own cc nL ret p s m args meth c) (P : Hp G o s H locs) {i idx : Nat} (hk : okb 6 i = true) (hw : Cond.fieldLink own idx "ThawPoints$Points" "degree" "[I" ∈ WT) (d : Dc cc pc (.getfield idx) 3 pc') (kk : W p l e R s m args below meth c H locs cells slots Q (F0 m pc' ls (.ref (rA G 8 i) :: rest))) : W p l e R s m args below meth c H locs cells slots Q (F0 m pc ls (.ref (rA G 6 i) :: rest)) := by
  obtain ⟨d1, rfl⟩ := d
  exact va_get (ref := "ThawPoints$Points") (T := TX1) (N := 8) C.1 C.2.1 C.2.2.2.2.2.1 in_X1 C.2.2.2.2.1 C.2.2.2.2.2.2.1 P.1 (adr 6 i) (WS_at hk) rfl 2 (by decide) (C.2.2.2.2.2.1 _ hw) (fun _ h9 => h9) rfl d1 kk
theorem gf_6_3 (C : Cx G own cc nL ret p s m args meth c) (P : Hp G o s H locs) {i idx : Nat} (hk : okb 6 i = true) (hw : Cond.fieldLink own idx "ThawPoints$Points" "year" "[I" ∈ WT) (d : Dc cc pc (.getfield idx) 3 pc') (kk : W p l e R s m args below meth c H locs cells slots Q (F0 m pc' ls (.ref (rA G 9 i) :: rest))) : W p l e R s m args below meth c H locs cells slots Q (F0 m pc ls (.ref (rA G 6 i) :: rest)) := by
  obtain ⟨d1, rfl⟩ := d
  exact va_get (ref := "ThawPoints$Points") (T := TX1) (N := 8) C.1 C.2.1 C.2.2.2.2.2.1 in_X1 C.2.2.2.2.1 C.2.2.2.2.2.2.1 P.1 (adr 6 i) (WS_at hk) rfl 3 (by decide) (C.2.2.2.2.2.1 _ hw) (fun _ h9 => h9) rfl d1 kk
theorem gf_6_4 (C : Cx G own cc nL ret p s m args meth c) (P : Hp G o s H locs) {i idx : Nat} (hk : okb 6 i = true) (hw : Cond.fieldLink own idx "ThawPoints$Points" "left" "[I" ∈ WT) (d : Dc cc pc (.getfield idx) 3 pc') (kk : W p l e R s m args below meth c H locs cells slots Q (F0 m pc' ls (.ref (rA G 10 i) :: rest))) : W p l e R s m args below meth c H locs cells slots Q (F0 m pc ls (.ref (rA G 6 i) :: rest)) := by
  obtain ⟨d1, rfl⟩ := d
  exact va_get (ref := "ThawPoints$Points") (T := TX1) (N := 8) C.1 C.2.1 C.2.2.2.2.2.1 in_X1 C.2.2.2.2.1 C.2.2.2.2.2.2.1 P.1 (adr 6 i) (WS_at hk) rfl 4 (by decide) (C.2.2.2.2.2.1 _ hw) (fun _ h9 => h9) rfl d1 kk
theorem gf_6_5 (C : Cx G own cc nL ret p s m args meth c) (P : Hp G o s H locs) {i idx : Nat} (hk : okb 6 i = true) (hw : Cond.fieldLink own idx "ThawPoints$Points" "right" "[I" ∈ WT) (d : Dc cc pc (.getfield idx) 3 pc') (kk : W p l e R s m args below meth c H locs cells slots Q (F0 m pc' ls (.ref (rA G 11 i) :: rest))) : W p l e R s m args below meth c H locs cells slots Q (F0 m pc ls (.ref (rA G 6 i) :: rest)) := by
  obtain ⟨d1, rfl⟩ := d
  exact va_get (ref := "ThawPoints$Points") (T := TX1) (N := 8) C.1 C.2.1 C.2.2.2.2.2.1 in_X1 C.2.2.2.2.1 C.2.2.2.2.2.2.1 P.1 (adr 6 i) (WS_at hk) rfl 5 (by decide) (C.2.2.2.2.2.1 _ hw) (fun _ h9 => h9) rfl d1 kk
theorem gf_6_6 (C : Cx G own cc nL ret p s m args meth c) (P : Hp G o s H locs) {i idx : Nat} (hk : okb 6 i = true) (hw : Cond.fieldLink own idx "ThawPoints$Points" "depth" "[I" ∈ WT) (d : Dc cc pc (.getfield idx) 3 pc') (kk : W p l e R s m args below meth c H locs cells slots Q (F0 m pc' ls (.ref (rA G 12 i) :: rest))) : W p l e R s m args below meth c H locs cells slots Q (F0 m pc ls (.ref (rA G 6 i) :: rest)) := by
  obtain ⟨d1, rfl⟩ := d
  exact va_get (ref := "ThawPoints$Points") (T := TX1) (N := 8) C.1 C.2.1 C.2.2.2.2.2.1 in_X1 C.2.2.2.2.1 C.2.2.2.2.2.2.1 P.1 (adr 6 i) (WS_at hk) rfl 6 (by decide) (C.2.2.2.2.2.1 _ hw) (fun _ h9 => h9) rfl d1 kk
theorem gf_6_7 (C : Cx G own cc nL ret p s m args meth c) (P : Hp G o s H locs) {i idx : Nat} (hk : okb 6 i = true) (hw : Cond.fieldLink own idx "ThawPoints$Points" "order" "[I" ∈ WT) (d : Dc cc pc (.getfield idx) 3 pc') (kk : W p l e R s m args below meth c H locs cells slots Q (F0 m pc' ls (.ref (rA G 13 i) :: rest))) : W p l e R s m args below meth c H locs cells slots Q (F0 m pc ls (.ref (rA G 6 i) :: rest)) := by
  obtain ⟨d1, rfl⟩ := d
  exact va_get (ref := "ThawPoints$Points") (T := TX1) (N := 8) C.1 C.2.1 C.2.2.2.2.2.1 in_X1 C.2.2.2.2.1 C.2.2.2.2.2.2.1 P.1 (adr 6 i) (WS_at hk) rfl 7 (by decide) (C.2.2.2.2.2.1 _ hw) (fun _ h9 => h9) rfl d1 kk
theorem gf_14_0 (C : Cx G own cc nL ret p s m args meth c) (P : Hp G o s H locs) {i idx : Nat} (hk : okb 14 i = true) (hw : Cond.fieldLink own idx "ThawPoints$History" "size" "I" ∈ WT) (d : Dc cc pc (.getfield idx) 3 pc') (kk : W p l e R s m args below meth c H locs cells slots Q (F0 m pc' ls (.int (rd o 14 i 0) :: rest))) : W p l e R s m args below meth c H locs cells slots Q (F0 m pc ls (.ref (rA G 14 i) :: rest)) := by
  obtain ⟨d1, rfl⟩ := d
  exact va_get (ref := "ThawPoints$History") (T := TX0) (N := 3) C.1 C.2.1 C.2.2.2.2.2.1 in_X0 C.2.2.2.2.1 C.2.2.2.2.2.2.1 P.1 (adr 14 i) (WS_at hk) rfl 0 (by decide) (C.2.2.2.2.2.1 _ hw) (fun _ h9 => h9) rfl d1 kk
theorem pf_14_0 (C : Cx G own cc nL ret p s m args meth c) (P : Hp G o s H locs) {i idx : Nat} {x : Int32} (hk : okb 14 i = true) (hw : Cond.fieldLink own idx "ThawPoints$History" "size" "I" ∈ WT) (d : Dc cc pc (.putfield idx) 3 pc') {β : Type} {K : OM → β} {z : β} (hf : bd (wr o 14 i 0 x) K = z) (kk : ∀ o1 H1 L1, Hp G o1 s H1 L1 → K o1 = z → W p l e R s m args below meth c H1 L1 cells slots Q (F0 m pc' ls rest)) : W p l e R s m args below meth c H locs cells slots Q (F0 m pc ls (.int x :: .ref (rA G 14 i) :: rest)) := by
  obtain ⟨d1, rfl⟩ := d
  refine va_put (ref := "ThawPoints$History") (T := TX0) (N := 3) (ty := .int) (v := .int x) C.1 C.2.1 C.2.2.2.2.2.1 in_X0 tyX0 tyX0_ok nmX0 C.2.2.2.2.1 C.2.2.2.2.2.2.1 P.1 (WS_D G o) P.2 (adr 14 i) (WS_at hk) rfl 0 (by decide) (C.2.2.2.2.2.1 _ hw) (fun _ h9 => h9) rfl (by decide +kernel) rfl rfl (Nat.le_of_ble_eq_true rfl) d1 (fun H1 L1 h1 _ h3 => kk (wr o 14 i 0 x) H1 L1 (P.put ?_ h1 h3) hf)
  refine WS_set hk ?_ (fun a b _ hab => by unfold wr; exact cel_wrA hab)
  unfold wr
  rw [cel_self]
  rfl
theorem gf_14_1 (C : Cx G own cc nL ret p s m args meth c) (P : Hp G o s H locs) {i idx : Nat} (hk : okb 14 i = true) (hw : Cond.fieldLink own idx "ThawPoints$History" "oldest" "I" ∈ WT) (d : Dc cc pc (.getfield idx) 3 pc') (kk : W p l e R s m args below meth c H locs cells slots Q (F0 m pc' ls (.int (rd o 14 i 1) :: rest))) : W p l e R s m args below meth c H locs cells slots Q (F0 m pc ls (.ref (rA G 14 i) :: rest)) := by
  obtain ⟨d1, rfl⟩ := d
  exact va_get (ref := "ThawPoints$History") (T := TX0) (N := 3) C.1 C.2.1 C.2.2.2.2.2.1 in_X0 C.2.2.2.2.1 C.2.2.2.2.2.2.1 P.1 (adr 14 i) (WS_at hk) rfl 1 (by decide) (C.2.2.2.2.2.1 _ hw) (fun _ h9 => h9) rfl d1 kk
theorem pf_14_1 (C : Cx G own cc nL ret p s m args meth c) (P : Hp G o s H locs) {i idx : Nat} {x : Int32} (hk : okb 14 i = true) (hw : Cond.fieldLink own idx "ThawPoints$History" "oldest" "I" ∈ WT) (d : Dc cc pc (.putfield idx) 3 pc') {β : Type} {K : OM → β} {z : β} (hf : bd (wr o 14 i 1 x) K = z) (kk : ∀ o1 H1 L1, Hp G o1 s H1 L1 → K o1 = z → W p l e R s m args below meth c H1 L1 cells slots Q (F0 m pc' ls rest)) : W p l e R s m args below meth c H locs cells slots Q (F0 m pc ls (.int x :: .ref (rA G 14 i) :: rest)) := by
  obtain ⟨d1, rfl⟩ := d
  refine va_put (ref := "ThawPoints$History") (T := TX0) (N := 3) (ty := .int) (v := .int x) C.1 C.2.1 C.2.2.2.2.2.1 in_X0 tyX0 tyX0_ok nmX0 C.2.2.2.2.1 C.2.2.2.2.2.2.1 P.1 (WS_D G o) P.2 (adr 14 i) (WS_at hk) rfl 1 (by decide) (C.2.2.2.2.2.1 _ hw) (fun _ h9 => h9) rfl (by decide +kernel) rfl rfl (Nat.le_of_ble_eq_true rfl) d1 (fun H1 L1 h1 _ h3 => kk (wr o 14 i 1 x) H1 L1 (P.put ?_ h1 h3) hf)
  refine WS_set hk ?_ (fun a b _ hab => by unfold wr; exact cel_wrA hab)
  unfold wr
  rw [cel_self]
  rfl
theorem gf_14_2 (C : Cx G own cc nL ret p s m args meth c) (P : Hp G o s H locs) {i idx : Nat} (hk : okb 14 i = true) (hw : Cond.fieldLink own idx "ThawPoints$History" "ring" "[LThawPoints$State;" ∈ WT) (d : Dc cc pc (.getfield idx) 3 pc') (kk : W p l e R s m args below meth c H locs cells slots Q (F0 m pc' ls (.ref (rA G 15 0) :: rest))) : W p l e R s m args below meth c H locs cells slots Q (F0 m pc ls (.ref (rA G 14 i) :: rest)) := by
  obtain ⟨d1, rfl⟩ := d
  exact va_get (ref := "ThawPoints$History") (T := TX0) (N := 3) C.1 C.2.1 C.2.2.2.2.2.1 in_X0 C.2.2.2.2.1 C.2.2.2.2.2.2.1 P.1 (adr 14 i) (WS_at hk) rfl 2 (by decide) (C.2.2.2.2.2.1 _ hw) (fun _ h9 => h9) rfl d1 kk
theorem gf_16_0 (C : Cx G own cc nL ret p s m args meth c) (P : Hp G o s H locs) {i idx : Nat} (hk : okb 16 i = true) (hw : Cond.fieldLink own idx "ThawPoints$Works" "length" "I" ∈ WT) (d : Dc cc pc (.getfield idx) 3 pc') (kk : W p l e R s m args below meth c H locs cells slots Q (F0 m pc' ls (.int (rd o 16 i 0) :: rest))) : W p l e R s m args below meth c H locs cells slots Q (F0 m pc ls (.ref (rA G 16 i) :: rest)) := by
  obtain ⟨d1, rfl⟩ := d
  exact va_get (ref := "ThawPoints$Works") (T := TX4) (N := 6) C.1 C.2.1 C.2.2.2.2.2.1 in_X4 C.2.2.2.2.1 C.2.2.2.2.2.2.1 P.1 (adr 16 i) (WS_at hk) rfl 0 (by decide) (C.2.2.2.2.2.1 _ hw) (fun _ h9 => h9) rfl d1 kk
theorem pf_16_0 (C : Cx G own cc nL ret p s m args meth c) (P : Hp G o s H locs) {i idx : Nat} {x : Int32} (hk : okb 16 i = true) (hw : Cond.fieldLink own idx "ThawPoints$Works" "length" "I" ∈ WT) (d : Dc cc pc (.putfield idx) 3 pc') {β : Type} {K : OM → β} {z : β} (hf : bd (wr o 16 i 0 x) K = z) (kk : ∀ o1 H1 L1, Hp G o1 s H1 L1 → K o1 = z → W p l e R s m args below meth c H1 L1 cells slots Q (F0 m pc' ls rest)) : W p l e R s m args below meth c H locs cells slots Q (F0 m pc ls (.int x :: .ref (rA G 16 i) :: rest)) := by
  obtain ⟨d1, rfl⟩ := d
  refine va_put (ref := "ThawPoints$Works") (T := TX4) (N := 6) (ty := .int) (v := .int x) C.1 C.2.1 C.2.2.2.2.2.1 in_X4 tyX4 tyX4_ok nmX4 C.2.2.2.2.1 C.2.2.2.2.2.2.1 P.1 (WS_D G o) P.2 (adr 16 i) (WS_at hk) rfl 0 (by decide) (C.2.2.2.2.2.1 _ hw) (fun _ h9 => h9) rfl (by decide +kernel) rfl rfl (Nat.le_of_ble_eq_true rfl) d1 (fun H1 L1 h1 _ h3 => kk (wr o 16 i 0 x) H1 L1 (P.put ?_ h1 h3) hf)
  refine WS_set hk ?_ (fun a b _ hab => by unfold wr; exact cel_wrA hab)
  unfold wr
  rw [cel_self]
  rfl
theorem gf_16_1 (C : Cx G own cc nL ret p s m args meth c) (P : Hp G o s H locs) {i idx : Nat} (hk : okb 16 i = true) (hw : Cond.fieldLink own idx "ThawPoints$Works" "signs" "[C" ∈ WT) (d : Dc cc pc (.getfield idx) 3 pc') (kk : W p l e R s m args below meth c H locs cells slots Q (F0 m pc' ls (.ref (rA G 17 0) :: rest))) : W p l e R s m args below meth c H locs cells slots Q (F0 m pc ls (.ref (rA G 16 i) :: rest)) := by
  obtain ⟨d1, rfl⟩ := d
  exact va_get (ref := "ThawPoints$Works") (T := TX4) (N := 6) C.1 C.2.1 C.2.2.2.2.2.1 in_X4 C.2.2.2.2.1 C.2.2.2.2.2.2.1 P.1 (adr 16 i) (WS_at hk) rfl 1 (by decide) (C.2.2.2.2.2.1 _ hw) (fun _ h9 => h9) rfl d1 kk
theorem gf_16_2 (C : Cx G own cc nL ret p s m args meth c) (P : Hp G o s H locs) {i idx : Nat} (hk : okb 16 i = true) (hw : Cond.fieldLink own idx "ThawPoints$Works" "at" "I" ∈ WT) (d : Dc cc pc (.getfield idx) 3 pc') (kk : W p l e R s m args below meth c H locs cells slots Q (F0 m pc' ls (.int (rd o 16 i 2) :: rest))) : W p l e R s m args below meth c H locs cells slots Q (F0 m pc ls (.ref (rA G 16 i) :: rest)) := by
  obtain ⟨d1, rfl⟩ := d
  exact va_get (ref := "ThawPoints$Works") (T := TX4) (N := 6) C.1 C.2.1 C.2.2.2.2.2.1 in_X4 C.2.2.2.2.1 C.2.2.2.2.2.2.1 P.1 (adr 16 i) (WS_at hk) rfl 2 (by decide) (C.2.2.2.2.2.1 _ hw) (fun _ h9 => h9) rfl d1 kk
theorem pf_16_2 (C : Cx G own cc nL ret p s m args meth c) (P : Hp G o s H locs) {i idx : Nat} {x : Int32} (hk : okb 16 i = true) (hw : Cond.fieldLink own idx "ThawPoints$Works" "at" "I" ∈ WT) (d : Dc cc pc (.putfield idx) 3 pc') {β : Type} {K : OM → β} {z : β} (hf : bd (wr o 16 i 2 x) K = z) (kk : ∀ o1 H1 L1, Hp G o1 s H1 L1 → K o1 = z → W p l e R s m args below meth c H1 L1 cells slots Q (F0 m pc' ls rest)) : W p l e R s m args below meth c H locs cells slots Q (F0 m pc ls (.int x :: .ref (rA G 16 i) :: rest)) := by
  obtain ⟨d1, rfl⟩ := d
  refine va_put (ref := "ThawPoints$Works") (T := TX4) (N := 6) (ty := .int) (v := .int x) C.1 C.2.1 C.2.2.2.2.2.1 in_X4 tyX4 tyX4_ok nmX4 C.2.2.2.2.1 C.2.2.2.2.2.2.1 P.1 (WS_D G o) P.2 (adr 16 i) (WS_at hk) rfl 2 (by decide) (C.2.2.2.2.2.1 _ hw) (fun _ h9 => h9) rfl (by decide +kernel) rfl rfl (Nat.le_of_ble_eq_true rfl) d1 (fun H1 L1 h1 _ h3 => kk (wr o 16 i 2 x) H1 L1 (P.put ?_ h1 h3) hf)
  refine WS_set hk ?_ (fun a b _ hab => by unfold wr; exact cel_wrA hab)
  unfold wr
  rw [cel_self]
  rfl
theorem gf_16_3 (C : Cx G own cc nL ret p s m args meth c) (P : Hp G o s H locs) {i idx : Nat} (hk : okb 16 i = true) (hw : Cond.fieldLink own idx "ThawPoints$Works" "kind" "I" ∈ WT) (d : Dc cc pc (.getfield idx) 3 pc') (kk : W p l e R s m args below meth c H locs cells slots Q (F0 m pc' ls (.int (rd o 16 i 3) :: rest))) : W p l e R s m args below meth c H locs cells slots Q (F0 m pc ls (.ref (rA G 16 i) :: rest)) := by
  obtain ⟨d1, rfl⟩ := d
  exact va_get (ref := "ThawPoints$Works") (T := TX4) (N := 6) C.1 C.2.1 C.2.2.2.2.2.1 in_X4 C.2.2.2.2.1 C.2.2.2.2.2.2.1 P.1 (adr 16 i) (WS_at hk) rfl 3 (by decide) (C.2.2.2.2.2.1 _ hw) (fun _ h9 => h9) rfl d1 kk
theorem pf_16_3 (C : Cx G own cc nL ret p s m args meth c) (P : Hp G o s H locs) {i idx : Nat} {x : Int32} (hk : okb 16 i = true) (hw : Cond.fieldLink own idx "ThawPoints$Works" "kind" "I" ∈ WT) (d : Dc cc pc (.putfield idx) 3 pc') {β : Type} {K : OM → β} {z : β} (hf : bd (wr o 16 i 3 x) K = z) (kk : ∀ o1 H1 L1, Hp G o1 s H1 L1 → K o1 = z → W p l e R s m args below meth c H1 L1 cells slots Q (F0 m pc' ls rest)) : W p l e R s m args below meth c H locs cells slots Q (F0 m pc ls (.int x :: .ref (rA G 16 i) :: rest)) := by
  obtain ⟨d1, rfl⟩ := d
  refine va_put (ref := "ThawPoints$Works") (T := TX4) (N := 6) (ty := .int) (v := .int x) C.1 C.2.1 C.2.2.2.2.2.1 in_X4 tyX4 tyX4_ok nmX4 C.2.2.2.2.1 C.2.2.2.2.2.2.1 P.1 (WS_D G o) P.2 (adr 16 i) (WS_at hk) rfl 3 (by decide) (C.2.2.2.2.2.1 _ hw) (fun _ h9 => h9) rfl (by decide +kernel) rfl rfl (Nat.le_of_ble_eq_true rfl) d1 (fun H1 L1 h1 _ h3 => kk (wr o 16 i 3 x) H1 L1 (P.put ?_ h1 h3) hf)
  refine WS_set hk ?_ (fun a b _ hab => by unfold wr; exact cel_wrA hab)
  unfold wr
  rw [cel_self]
  rfl
theorem gf_16_4 (C : Cx G own cc nL ret p s m args meth c) (P : Hp G o s H locs) {i idx : Nat} (hk : okb 16 i = true) (hw : Cond.fieldLink own idx "ThawPoints$Works" "numbers" "[I" ∈ WT) (d : Dc cc pc (.getfield idx) 3 pc') (kk : W p l e R s m args below meth c H locs cells slots Q (F0 m pc' ls (.ref (rA G 18 0) :: rest))) : W p l e R s m args below meth c H locs cells slots Q (F0 m pc ls (.ref (rA G 16 i) :: rest)) := by
  obtain ⟨d1, rfl⟩ := d
  exact va_get (ref := "ThawPoints$Works") (T := TX4) (N := 6) C.1 C.2.1 C.2.2.2.2.2.1 in_X4 C.2.2.2.2.1 C.2.2.2.2.2.2.1 P.1 (adr 16 i) (WS_at hk) rfl 4 (by decide) (C.2.2.2.2.2.1 _ hw) (fun _ h9 => h9) rfl d1 kk
theorem gf_16_5 (C : Cx G own cc nL ret p s m args meth c) (P : Hp G o s H locs) {i idx : Nat} (hk : okb 16 i = true) (hw : Cond.fieldLink own idx "ThawPoints$Works" "numbersRead" "I" ∈ WT) (d : Dc cc pc (.getfield idx) 3 pc') (kk : W p l e R s m args below meth c H locs cells slots Q (F0 m pc' ls (.int (rd o 16 i 5) :: rest))) : W p l e R s m args below meth c H locs cells slots Q (F0 m pc ls (.ref (rA G 16 i) :: rest)) := by
  obtain ⟨d1, rfl⟩ := d
  exact va_get (ref := "ThawPoints$Works") (T := TX4) (N := 6) C.1 C.2.1 C.2.2.2.2.2.1 in_X4 C.2.2.2.2.1 C.2.2.2.2.2.2.1 P.1 (adr 16 i) (WS_at hk) rfl 5 (by decide) (C.2.2.2.2.2.1 _ hw) (fun _ h9 => h9) rfl d1 kk
theorem pf_16_5 (C : Cx G own cc nL ret p s m args meth c) (P : Hp G o s H locs) {i idx : Nat} {x : Int32} (hk : okb 16 i = true) (hw : Cond.fieldLink own idx "ThawPoints$Works" "numbersRead" "I" ∈ WT) (d : Dc cc pc (.putfield idx) 3 pc') {β : Type} {K : OM → β} {z : β} (hf : bd (wr o 16 i 5 x) K = z) (kk : ∀ o1 H1 L1, Hp G o1 s H1 L1 → K o1 = z → W p l e R s m args below meth c H1 L1 cells slots Q (F0 m pc' ls rest)) : W p l e R s m args below meth c H locs cells slots Q (F0 m pc ls (.int x :: .ref (rA G 16 i) :: rest)) := by
  obtain ⟨d1, rfl⟩ := d
  refine va_put (ref := "ThawPoints$Works") (T := TX4) (N := 6) (ty := .int) (v := .int x) C.1 C.2.1 C.2.2.2.2.2.1 in_X4 tyX4 tyX4_ok nmX4 C.2.2.2.2.1 C.2.2.2.2.2.2.1 P.1 (WS_D G o) P.2 (adr 16 i) (WS_at hk) rfl 5 (by decide) (C.2.2.2.2.2.1 _ hw) (fun _ h9 => h9) rfl (by decide +kernel) rfl rfl (Nat.le_of_ble_eq_true rfl) d1 (fun H1 L1 h1 _ h3 => kk (wr o 16 i 5 x) H1 L1 (P.put ?_ h1 h3) hf)
  refine WS_set hk ?_ (fun a b _ hab => by unfold wr; exact cel_wrA hab)
  unfold wr
  rw [cel_self]
  rfl
end RW
