/-! what the program and the model hold, beside one row of numbers, what is saved, the snapshot and the buffer -/
abbrev Qt : Type := (Nat × (Nat → Int → Int)) × (Int × (Int → Int)) × (Nat × (Nat → Int))
def WC (o : OM) (L : Nat) (B : Nat → Int) : Prop := rd o 16 0 0 = I (L : Int) ∧ ∀ k, k < L → rd o 17 0 k = I (B k)
def WM (o : OM) (L : Nat) (B : Nat → Int) : Prop := rd o 19 0 7 = I (L : Int) ∧ ∀ k, k < L → rd o 23 0 k = I (B k)
def RP (o : OM) (S : Int → Int) (q : Qt) : Prop := CS o 0 S ∧ (∀ j, j < 8 → PM o j) ∧ (∃ b, HC o q.1.1 b q.1.2) ∧ rd o 0 0 4 = I q.2.1.1 ∧ (q.2.1.1 = 1 → CS o 1 q.2.1.2) ∧ WC o q.2.2.1 q.2.2.2
def RM (o : OM) (S : Int → Int) (q : Qt) : Prop := MS o S ∧ MV o q.1.1 q.1.2 ∧ rd o 19 0 5 = I q.2.1.1 ∧ (q.2.1.1 = 1 → MA o 22 0 q.2.1.2) ∧ WM o q.2.2.1 q.2.2.2
/-- the stop of the program is that of the model -/
def LK (S : Int → Int) : Prop := S 244 = S 242 ∧ S 245 = S 243
def LKs (S : Int → Int) (q : Qt) : Prop := LK S ∧ (∀ i, i < q.1.1 → LK (q.1.2 i)) ∧ (q.2.1.1 = 1 → LK q.2.1.2)
def RB (S : Int → Int) (q : Qt) (Y : Nat) : Prop := SB S Y ∧ (∀ i, i < q.1.1 → SB (q.1.2 i) Y) ∧ q.1.1 ≤ 6 ∧ (q.2.1.1 = 0 ∨ q.2.1.1 = 1) ∧ (q.2.1.1 = 1 → SB q.2.1.2 Y) ∧ q.2.2.1 ≤ 60 ∧ (∀ k, k < q.2.2.1 → 33 ≤ q.2.2.2 k ∧ q.2.2.2 k ≤ 126) ∧ LKs S q
/-- the program's half is changed alone; the model's half is changed alone -/
def Gp (o o1 : OM) : Prop := (∀ k i, 19 ≤ k → o1.1 k i = o.1 k i) ∧ o1.2 = o.2
def Gm (o o1 : OM) : Prop := (∀ k i, k < 19 → o1.1 k i = o.1 k i) ∧ o1.2 24 = o.2 24
theorem Gp.rf (o : OM) : Gp o o := ⟨fun _ _ _ => rfl, rfl⟩
theorem Gm.rf (o : OM) : Gm o o := ⟨fun _ _ _ => rfl, rfl⟩
theorem Gp.tr {o o1 o2 : OM} (h : Gp o o1) (h' : Gp o1 o2) : Gp o o2 := ⟨fun k i hk => (h'.1 k i hk).trans (h.1 k i hk), h'.2.trans h.2⟩
theorem Gm.tr {o o1 o2 : OM} (h : Gm o o1) (h' : Gm o1 o2) : Gm o o2 := ⟨fun k i hk => (h'.1 k i hk).trans (h.1 k i hk), h'.2.trans h.2⟩
theorem Gp.wr {o o1 : OM} {k i j : Nat} {v : Int32} (h : Gp o o1) (hk : k < 19) : Gp o (wr o1 k i j v) := ⟨fun k' i' hk' => (wr_ne o1 v (by omega)).trans (h.1 k' i' hk'), h.2⟩
theorem Gm.wr {o o1 : OM} {k i j : Nat} {v : Int32} (h : Gm o o1) (hk : 19 ≤ k) : Gm o (wr o1 k i j v) := ⟨fun k' i' hk' => (wr_ne o1 v (by omega)).trans (h.1 k' i' hk'), h.2⟩
theorem Fz.gp {o o1 : OM} (h : Fz o o1) : Gp o o1 := ⟨fun k i hk => h.1 k i (by omega), h.2⟩
theorem Fk.gm {o o1 : OM} {k : Nat} (h : Fk o o1 k) (hk : 19 ≤ k) : Gm o o1 := ⟨fun k' i hk' => h.1 k' i (by omega), by rw [h.2]⟩
theorem WC.c {o o1 : OM} {L : Nat} {B : Nat → Int} (h : WC o L B) (e : rd o1 16 0 0 = rd o 16 0 0) (e2 : o1.1 17 0 = o.1 17 0) : WC o1 L B := ⟨by rw [e]; exact h.1, fun k hk => (congrFun e2 k).trans (h.2 k hk)⟩
theorem WM.c {o o1 : OM} {L : Nat} {B : Nat → Int} (h : WM o L B) (e : rd o1 19 0 7 = rd o 19 0 7) (e2 : o1.1 23 0 = o.1 23 0) : WM o1 L B := ⟨by rw [e]; exact h.1, fun k hk => (congrFun e2 k).trans (h.2 k hk)⟩
theorem HC.fr {o o1 : OM} {m b : Nat} {V : Nat → Int → Int} (h : HC o m b V) (e14 : o1.1 14 0 = o.1 14 0) (e : ∀ k i, 2 ≤ i → 1 ≤ k → k ≤ 4 → o1.1 k i = o.1 k i) (e2 : ∀ k t, 12 ≤ t → 5 ≤ k → k ≤ 13 → o1.1 k t = o.1 k t) : HC o1 m b V := by
  obtain ⟨h1, h2, h3, h4, h5⟩ := h
  exact ⟨h1, h2, (congrFun e14 0).trans h3, (congrFun e14 1).trans h4, fun i hi => (h5 i hi).fr (fun k a c => e k _ (by omega) a c) (fun k t a c d => e2 k t (by omega) a c)⟩
theorem MA.c {o o1 : OM} {k : Nat} {b : Int} {S : Int → Int} (h : MA o k b S) (e : o1.1 k 0 = o.1 k 0) : MA o1 k b S := fun a h1 h2 => (congrFun e _).trans (h a h1 h2)
theorem MV.c {o o1 : OM} {m : Nat} {V : Nat → Int → Int} (h : MV o m V) (e3 : rd o1 19 0 3 = rd o 19 0 3) (e : o1.1 21 0 = o.1 21 0) : MV o1 m V := ⟨by rw [e3]; exact h.1, fun i hi => (h.2 i hi).c e⟩
/-- the program's half as it was: all but the reader's cells -/
theorem RP.fr {o o1 : OM} {S : Int → Int} {q : Qt} (h : RP o S q) (e : ∀ k i, k ≤ 17 → k ≠ 16 → o1.1 k i = o.1 k i) (e16 : rd o1 16 0 0 = rd o 16 0 0) : RP o1 S q := by
  obtain ⟨h1, h2, ⟨b, h3⟩, h4, h5, h6⟩ := h
  exact ⟨h1.fr (fun k a c => e k _ (by omega) (by omega)) (fun k t a c d => e k _ (by omega) (by omega)), fun j hj => (h2 j hj).c (e 4 j (by omega) (by omega)), ⟨b, h3.fr (e 14 0 (by omega) (by omega)) (fun k i a c d => e k _ (by omega) (by omega)) (fun k t a c d => e k _ (by omega) (by omega))⟩, (congrFun (e 0 0 (by omega) (by omega)) 4).trans h4, fun hq => (h5 hq).fr (fun k a c => e k _ (by omega) (by omega)) (fun k t a c d => e k _ (by omega) (by omega)), h6.c e16 (e 17 0 (by omega) (by omega))⟩
theorem RP.gm {o o1 : OM} {S : Int → Int} {q : Qt} (h : RP o S q) (g : Gm o o1) : RP o1 S q := h.fr (fun k i hk _ => g.1 k i (by omega)) (congrFun (g.1 16 0 (by omega)) 0)
theorem RM.fr {o o1 : OM} {S : Int → Int} {q : Qt} (h : RM o S q) (e : ∀ k i, 20 ≤ k → o1.1 k i = o.1 k i) (e3 : rd o1 19 0 3 = rd o 19 0 3) (e5 : rd o1 19 0 5 = rd o 19 0 5) (e7 : rd o1 19 0 7 = rd o 19 0 7) : RM o1 S q := by
  obtain ⟨h1, h2, h3, h4, h5⟩ := h
  exact ⟨h1.fr (e 20 0 (by omega)), h2.c e3 (e 21 0 (by omega)), by rw [e5]; exact h3, fun hq => (h4 hq).c (e 22 0 (by omega)), h5.c e7 (e 23 0 (by omega))⟩
theorem RM.gp {o o1 : OM} {S : Int → Int} {q : Qt} (h : RM o S q) (g : Gp o o1) : RM o1 S q := h.fr (fun k i hk => g.1 k i (by omega)) (congrFun (g.1 19 0 (by omega)) 3) (congrFun (g.1 19 0 (by omega)) 5) (congrFun (g.1 19 0 (by omega)) 7)
theorem RM.wL {o : OM} {S : Int → Int} {q : Qt} (h : RM o S q) (k : Nat) (v : Int64) : RM (wrL o k v) S q := h.fr (fun _ _ _ => rfl) rfl rfl rfl
theorem RP.wL {o : OM} {S : Int → Int} {q : Qt} (h : RP o S q) (k : Nat) (v : Int64) : RP (wrL o k v) S q := h.fr (fun _ _ _ _ => rfl) rfl
theorem RM.w19 {o : OM} {S : Int → Int} {q : Qt} (h : RM o S q) {j : Nat} (v : Int32) (hj : j ≠ 3 ∧ j ≠ 5 ∧ j ≠ 7) : RM (wr o 19 0 j v) S q := h.fr (fun k i hk => wr_ne _ _ (by omega)) (rd_wj _ _ (by omega)) (rd_wj _ _ (by omega)) (rd_wj _ _ (by omega))
/-- State 0 is changed; the model's row is changed -/
theorem RP.op {o o1 : OM} {S S' : Int → Int} {q : Qt} (h : RP o S q) (f : Fz o o1) (hP : PM o1 0) (hC : CS o1 0 S') : RP o1 S' q := by
  obtain ⟨h1, h2, ⟨b, h3⟩, h4, h5, h6⟩ := h
  refine ⟨hC, fun j hj => ?_, ⟨b, h3.fr (f.1 14 0 (by omega)) (fun k i a c d => f.1 k _ (by omega)) (fun k t a c d => f.1 k _ (by omega))⟩, (f.rd (by omega)).trans h4, fun hq => (h5 hq).fz f (by omega), h6.c (f.rd (by omega)) (f.1 17 0 (by omega))⟩
  by_cases e : j = 0
  · rw [e]; exact hP
  · exact (h2 j hj).c (f.1 4 j (by omega))
theorem RP.op4 {o o1 : OM} {S S' : Int → Int} {q : Qt} (h : RP o S q) (f : Fz o o1) (e4 : o1.1 4 0 = o.1 4 0) (hC : CS o1 0 S') : RP o1 S' q := h.op f ((h.2.1 0 (by omega)).c e4) hC
theorem RM.op {o o1 : OM} {S S' : Int → Int} {q : Qt} (h : RM o S q) (f : Fk o o1 20) (hS : MS o1 S') : RM o1 S' q := by
  obtain ⟨h1, h2, h3, h4, h5⟩ := h
  exact ⟨hS, h2.c (f.rd (by omega)) (f.1 21 0 (by omega)), (f.rd (by omega)).trans h3, fun hq => (h4 hq).c (f.1 22 0 (by omega)), h5.c (f.rd (by omega)) (f.1 23 0 (by omega))⟩
/-- one more saved state -/
def pushQ (q : Qt) (S : Int → Int) : Qt := (if q.1.1 = 6 then (6, fun i => if i = 5 then S else q.1.2 (i + 1)) else (q.1.1 + 1, fun i => if i = q.1.1 then S else q.1.2 i), q.2)
theorem RP.push {o : OM} {S : Int → Int} {q : Qt} {Y : Nat} (h : RP o S q) (hB : RB S q Y) : ∃ o1, F_X0_push o 0 = some ((), o1) ∧ RP o1 S (pushQ q S) ∧ Gp o o1 ∧ o1.1 4 0 = o.1 4 0 ∧ ∀ k t, t / 6 = 0 → 5 ≤ k → k ≤ 13 → o1.1 k t = o.1 k t := by
  obtain ⟨h1, h2, ⟨b, h3⟩, h4, h5, h6⟩ := h
  obtain ⟨o1, b', e1, f1, g1, c1⟩ := push_e h3 h1 hB.1 h2
  refine ⟨o1, e1, ⟨h1.fr (fun k a c => f1 k _ (by omega)) (fun k t a c d => f1 k _ (by omega)), fun j hj => (h2 j hj).c (f1 4 j (by omega)), ⟨b', ?_⟩, (congrFun (f1 0 0 (by omega)) 4).trans h4, fun hq => (h5 hq).fr (fun k a c => f1 k _ (by omega)) (fun k t a c d => f1 k _ (by omega)), h6.c (congrFun (f1 16 0 (by omega)) 0) (f1 17 0 (by omega))⟩, ⟨fun k i hk => f1 k i (by omega), g1⟩, f1 4 0 (by omega), fun k t a c d => f1 k t (by omega)⟩
  unfold pushQ
  by_cases h : q.1.1 = 6
  · rw [if_pos h] at c1 ⊢
    exact c1
  · rw [if_neg h] at c1 ⊢
    exact c1
theorem RB.mono {S : Int → Int} {q : Qt} {Y Y' : Nat} (h : RB S q Y) (hY : Y ≤ Y') : RB S q Y' := by
  obtain ⟨h1, h2, h3, h4, h5, h6, h7⟩ := h
  exact ⟨h1.mono hY, fun i hi => (h2 i hi).mono hY, h3, h4, fun hq => (h5 hq).mono hY, h6, h7⟩
theorem LK.c {S S' : Int → Int} (h : LK S) (e : ∀ a : Int, 242 ≤ a → a < 246 → S' a = S a) : LK S' := by
  unfold LK
  rw [e _ (by omega) (by omega), e _ (by omega) (by omega), e _ (by omega) (by omega), e _ (by omega) (by omega)]
  exact h
theorem RB.op2 {S S' : Int → Int} {q : Qt} {Y Y' : Nat} (h : RB S q Y) (hY : Y ≤ Y') (hS : SB S' Y') (hL : LK S') : RB S' q Y' := by
  obtain ⟨h1, h2, h3, h4, h5, h6, h7, h8⟩ := h
  exact ⟨hS, fun i hi => (h2 i hi).mono hY, h3, h4, fun hq => (h5 hq).mono hY, h6, h7, hL, h8.2⟩
theorem RB.op {S S' : Int → Int} {q : Qt} {Y Y' : Nat} (h : RB S q Y) (hY : Y ≤ Y') (hS : SB S' Y') (e : ∀ a : Int, 242 ≤ a → a < 246 → S' a = S a) : RB S' q Y' := h.op2 hY hS (h.2.2.2.2.2.2.2.1.c e)
theorem RB.push {S : Int → Int} {q : Qt} {Y : Nat} (h : RB S q Y) : RB S (pushQ q S) Y := by
  obtain ⟨h1, h2, h3, h4, h5, h6, h7, h8, h9, h10⟩ := h
  refine ⟨h1, ?_, ?_, h4, h5, h6, h7, h8, ?_, h10⟩
  · unfold pushQ
    by_cases h : q.1.1 = 6
    · rw [if_pos h]
      intro i hi
      dsimp only at hi ⊢
      split
      · exact h1
      · exact h2 _ (by omega)
    · rw [if_neg h]
      intro i hi
      dsimp only at hi ⊢
      split
      · exact h1
      · exact h2 _ (by omega)
  · unfold pushQ
    by_cases h : q.1.1 = 6
    · rw [if_pos h]
      exact Nat.le_refl _
    · rw [if_neg h]
      show q.1.1 + 1 ≤ 6
      omega
  · unfold pushQ
    by_cases h : q.1.1 = 6
    · rw [if_pos h]
      intro i hi
      dsimp only at hi ⊢
      split
      · exact h8
      · exact h9 _ (by omega)
    · rw [if_neg h]
      intro i hi
      dsimp only at hi ⊢
      split
      · exact h8
      · exact h9 _ (by omega)
