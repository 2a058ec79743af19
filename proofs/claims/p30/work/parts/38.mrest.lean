/-! the model's other looks -/
def wsp (S : Int → Int) (g h : Nat) : Nat → Int → Int → Int → Int
  | 0, f, _, _ => f
  | n + 1, f, m, z => if ovl S g h z ≤ m then wsp S g h n f m (z + 100) else wsp S g h n (z + 10000) (ovl S g h z) (z + 100)
def wst (S : Int → Int) (g h : Nat) : Int := wsp S g h 20 (-1) (-1) (-400)
theorem wsp_rg (S : Int → Int) (g h : Nat) : ∀ (n : Nat) (f m z : Int), -1 ≤ f → f ≤ 12000 → -400 ≤ z → z + 100 * (n : Int) ≤ 1600 → -1 ≤ wsp S g h n f m z ∧ wsp S g h n f m z ≤ 12000
  | 0, f, m, z, h1, h2, _, _ => ⟨h1, h2⟩
  | n + 1, f, m, z, h1, h2, h3, h4 => by
    unfold wsp
    split
    · exact wsp_rg S g h n f m (z + 100) h1 h2 (by omega) (by omega)
    · exact wsp_rg S g h n (z + 10000) _ (z + 100) (by omega) (by omega) (by omega) (by omega)
theorem wst_rg (S : Int → Int) (g h : Nat) : -1 ≤ wst S g h ∧ wst S g h ≤ 12000 := wsp_rg S g h 20 (-1) (-1) (-400) (by omega) (by omega) (by omega) (by omega)
def wid (S : Int → Int) (g : Nat) : Int := mx (gap (pr S g) (pd S g) (gn S g)) (max (gn S g) 1)
def dpt (S : Int → Int) (g : Nat) : Int := mx (fun k => (dep (pr S g) k : Int)) (gn S g)
noncomputable def ofg (S : Int → Int) (g : Nat) (w : Int) : Int :=
  if w = 0 then S (38 * (g : Int) + 2) else if w = 1 then S (38 * (g : Int) + 3) else if w = 2 then S (38 * (g : Int) + 4) else if w = 3 then (gn S g : Int) else if w = 4 then dpt S g else if w = 5 then S (38 * (g : Int) + 5) else if w = 6 then val S g else if w = 7 then ref S g else wid S g
def ofp (S : Int → Int) (g : Nat) (p w : Int) : Int :=
  if p < (gn S g : Int) then (let j := oi (pr S g) (gn S g) p.toNat; if w = 0 then pr S g j + 10000 else if w = 1 then pd S g j + 10000 else if w = 2 then py S g j else (dep (pr S g) j : Int)) else -1
def sof (S : Int → Int) (w : Int) : Int :=
  if w = 2 then sm (fun g => (gn S g : Int)) (gm S) else if w = 3 then sm (fun g => val S g) (gm S) else sm (fun g => S (38 * (g : Int) + 4)) (gm S)
def cor (S : Int → Int) (g : Nat) (x : Int) : Int := if 2 ≤ gn S g then corf (pr S g) (pd S g) (gn S g) x + 10000000 else -1
section
variable {o : OM} {S : Int → Int} {g Y : Nat}
theorem wid_rg (hG : GB S g Y) : 0 ≤ wid S g ∧ wid S g ≤ 2000 := by
  have hn10 := hG.p.1
  unfold wid
  refine mx_rg (by omega) (fun k hk => ?_)
  by_cases h : k < gn S g
  · exact (gap_rg hG.p hG.s h).2
  · unfold gap
    rw [if_pos (by omega)]
    omega
theorem dpt_rg (hG : GB S g Y) : 0 ≤ dpt S g ∧ dpt S g ≤ 11 := by
  have hn10 := hG.p.1
  unfold dpt
  exact mx_rg (by omega) (fun k hk => by have := dep_le (r := pr S g) (k := k); omega)
theorem ofg_rg (hG : GB S g Y) (hY : Y ≤ 1000000) (w : Int) : -1 ≤ ofg S g w ∧ ofg S g w ≤ 1000000 := by
  have hn10 := hG.p.1
  have h1 := wid_rg hG
  have h2 := dpt_rg hG
  have h3 := val_01 S g
  have h4 := ref_rg S g
  obtain ⟨a1, a2, a3, a4, a5, a6, a7, -⟩ := hG
  unfold ofg
  repeat' split
  all_goals omega
end
