theorem dX0_init_0 : Dc cX0_init 0 (.aload_n 0) 1 1 := ⟨by decide +kernel, rfl⟩
theorem dX0_init_1 : Dc cX0_init 1 (.invokespecial 3) 3 4 := ⟨by decide +kernel, rfl⟩
theorem dX0_init_4 : Dc cX0_init 4 (.aload_n 0) 1 5 := ⟨by decide +kernel, rfl⟩
theorem dX0_init_5 : Dc cX0_init 5 (.bipush 6) 2 7 := ⟨by decide +kernel, rfl⟩
theorem dX0_init_7 : Dc cX0_init 7 (.anewarray 9) 3 10 := ⟨by decide +kernel, rfl⟩
theorem dX0_init_10 : Dc cX0_init 10 (.putfield 11) 3 13 := ⟨by decide +kernel, rfl⟩
theorem dX0_init_13 : Dc cX0_init 13 (.iconst 0) 1 14 := ⟨by decide +kernel, rfl⟩
theorem dX0_init_14 : Dc cX0_init 14 (.istore_n 1) 1 15 := ⟨by decide +kernel, rfl⟩
theorem dX0_init_15 : Dc cX0_init 15 (.iload_n 1) 1 16 := ⟨by decide +kernel, rfl⟩
theorem dX0_init_16 : Dc cX0_init 16 (.aload_n 0) 1 17 := ⟨by decide +kernel, rfl⟩
theorem dX0_init_17 : Dc cX0_init 17 (.getfield 11) 3 20 := ⟨by decide +kernel, rfl⟩
theorem dX0_init_20 : Dc cX0_init 20 (.arraylength) 1 21 := ⟨by decide +kernel, rfl⟩
theorem dX0_init_21 : Dj cX0_init 21 (.if_icmp .ge 22) 3 24 (22) 43 := ⟨by decide +kernel, rfl, by decide⟩
theorem dX0_init_24 : Dc cX0_init 24 (.aload_n 0) 1 25 := ⟨by decide +kernel, rfl⟩
theorem dX0_init_25 : Dc cX0_init 25 (.getfield 11) 3 28 := ⟨by decide +kernel, rfl⟩
theorem dX0_init_28 : Dc cX0_init 28 (.iload_n 1) 1 29 := ⟨by decide +kernel, rfl⟩
theorem dX0_init_29 : Dc cX0_init 29 (.new 9) 3 32 := ⟨by decide +kernel, rfl⟩
theorem dX0_init_32 : Dc cX0_init 32 (.dup) 1 33 := ⟨by decide +kernel, rfl⟩
theorem dX0_init_33 : Dc cX0_init 33 (.invokespecial 17) 3 36 := ⟨by decide +kernel, rfl⟩
theorem dX0_init_36 : Dc cX0_init 36 (.aastore) 1 37 := ⟨by decide +kernel, rfl⟩
theorem dX0_init_37 : Dc cX0_init 37 (.iinc 1 1) 3 40 := ⟨by decide +kernel, rfl⟩
theorem dX0_init_40 : Dj cX0_init 40 (.goto (-25)) 3 43 (-25) 15 := ⟨by decide +kernel, rfl, by decide⟩
theorem dX0_init_43 : Dc cX0_init 43 (.return_) 1 44 := ⟨by decide +kernel, rfl⟩
def hiE (v : Value) : va_E := .inr (0, [.int 0, .int 0, v])
def rfS (G : Gd) (a i : Nat) : Nat → Option Nat := fun n => if n < i then some (G.1 + (a + 2 + 58 * n)) else none
def arS (G : Gd) (g : Nat → Option Nat) : va_E := .inl (aS G, 6, .inr (.inr (.inr (.inr g))))
def hiI (G : Gd) (a i r : Nat) : va_E := if r = 0 then hiE (.ref (G.1 + (a + 1))) else if r = 1 then arS G (rfS G a i) else stC G (a + 2 + 58 * ((r - 2) / 58)) ((r - 2) % 58)
def hiW (G : Gd) (f : Nat → va_E) (a i : Nat) : Nat → va_E := blk f a (2 + 58 * i) (hiI G a i)
def hiC (G : Gd) (a r : Nat) : va_E := hiI G a 6 r
theorem hiK0 (G : Gd) (f : Nat → va_E) (a : Nat) (j : Nat) : fu (fu f (a + 1) (arS G (fun _ => none))) a (hiE (.ref (G.1 + (a + 1)))) j = hiW G f a 0 j := by
  unfold hiW
  by_cases h1 : j = a
  · subst h1
    rw [fu_s, blk_in (by omega), Nat.sub_self]
    rfl
  · rw [fu_n h1]
    by_cases h2 : j = a + 1
    · subst h2
      rw [fu_s, blk_in (by omega), Nat.add_sub_cancel_left]
      rfl
    · rw [fu_n h2, blk_out (by omega)]
theorem hiK1 (G : Gd) (f : Nat → va_E) (a i : Nat) (e1 : va_E) (n : Nat) (hn : n = a + 2 + 58 * i) (j : Nat) : fu (blk (fu (hiW G f a i) n e1) n 58 (stC G n)) (a + 1) (arS G (va_up (rfS G a i) i (some (G.1 + n)))) j = hiW G f a (i + 1) j := by
  subst hn
  have hr : va_up (rfS G a i) i (some (G.1 + (a + 2 + 58 * i))) = rfS G a (i + 1) := by
    funext n
    unfold va_up rfS
    by_cases h : n = i
    · subst h; simp
    · rw [if_neg h]
      by_cases h2 : n < i
      · rw [if_pos h2, if_pos (by omega)]
      · rw [if_neg h2, if_neg (by omega)]
  rw [hr]
  by_cases h1 : j = a + 1
  · subst h1
    unfold hiW
    rw [fu_s, blk_in (by omega), Nat.add_sub_cancel_left]
    rfl
  · rw [fu_n h1]
    by_cases h2 : a + 2 + 58 * i ≤ j ∧ j < a + 2 + 58 * i + 58
    · unfold hiW
      rw [blk_in h2, blk_in (by omega)]
      unfold hiI
      rw [if_neg (by omega), if_neg (by omega)]
      rw [show (j - a - 2) / 58 = i by omega, show (j - a - 2) % 58 = j - (a + 2 + 58 * i) by omega]
    · rw [blk_out h2, fu_n (by omega)]
      unfold hiW
      by_cases h3 : a ≤ j ∧ j < a + (2 + 58 * i)
      · rw [blk_in h3, blk_in (by omega)]
        unfold hiI
        simp only [if_neg (show ¬ j - a = 1 by omega)]
      · rw [blk_out h3, blk_out (by omega)]
theorem hiW_a {G : Gd} {f : Nat → va_E} {a i : Nat} : hiW G f a i a = hiE (.ref (G.1 + (a + 1))) := by
  unfold hiW
  rw [blk_in (by omega), Nat.sub_self]
  rfl
theorem hiW_1 {G : Gd} {f : Nat → va_E} {a i : Nat} : hiW G f a i (a + 1) = arS G (rfS G a i) := by
  unfold hiW
  rw [blk_in (by omega), Nat.add_sub_cancel_left]
  rfl
abbrev rmX0_init : Room := { frames := 4, cells := 349, slots := 3252, locals := 140 }
set_option maxHeartbeats 4000000 in
set_option maxRecDepth 100000 in
theorem lX0_init {G : Gd} {p : Program} {l : Launch} {e : Env} {s : State} {m : MethodId} {args : Array Value} {below : List Frame} {meth : Method} {c : Code} {f : Nat → va_E} {a : Nat} (C : Cx G RX0 cX0_init 2 none p s m args meth c) (hin : meth.name = "<init>") (X : XN G s) : ∀ (k i : Nat), i + k = 6 → ∀ H1 L1 ls, Hn G (hiW G f a i) (a + 2 + 58 * i) s H1 L1 → lv_has ls 2 [(1, .int (nI i)), (0, .ref (G.1 + a))] → W p l e rmX0_init s m args below meth c H1 L1 (1 + 58 * i) (6 + 541 * i) (Qn G (blk f a 350 (hiC G a)) (a + 350) rmX0_init below args s) (F0 m 15 ls []) := by
  intro k
  induction k with
  | zero =>
    intro i hi H1 L1 ls P hl
    obtain rfl : i = 6 := by omega
    refine r_iload_n C hl 0 rfl rfl dX0_init_15 ?_
    refine r_aload_n C hl 1 rfl rfl dX0_init_16 ?_
    refine n_get C P (T := TX0) (C' := RX0) (N := 3) (ci := 0) in_X0 rfl 2 (by decide) wd_178 rfl (a := a) (by omega) hiW_a rfl dX0_init_17 ?_
    refine n_alen C P (t0 := 3) (v := 6) rfl (by omega) hiW_1 rfl dX0_init_20 ?_
    refine lv_icmp_ge (tgt := 43) C.1 C.2.1 dX0_init_21.1 dX0_init_21.2.2 (fun _ => ?_) (fun h => absurd (by decide) h)
    exact n_vret C P (rm := rmX0_init) ⟨rfl, rfl⟩ dX0_init_43
  | succ k ih =>
    intro i hi H1 L1 ls P hl
    have hi6 : i < 6 := by omega
    refine r_iload_n C hl 0 rfl rfl dX0_init_15 ?_
    refine r_aload_n C hl 1 rfl rfl dX0_init_16 ?_
    refine n_get C P (T := TX0) (C' := RX0) (N := 3) (ci := 0) in_X0 rfl 2 (by decide) wd_178 rfl (a := a) (by omega) hiW_a rfl dX0_init_17 ?_
    refine n_alen C P (t0 := 3) (v := 6) rfl (by omega) hiW_1 rfl dX0_init_20 ?_
    refine lv_icmp_ge (tgt := 43) C.1 C.2.1 dX0_init_21.1 dX0_init_21.2.2 (fun h => absurd h (nI_ge (b := 6) hi6 (by decide))) (fun _ => ?_)
    refine r_aload_n C hl 1 rfl rfl dX0_init_24 ?_
    refine n_get C P (T := TX0) (C' := RX0) (N := 3) (ci := 0) in_X0 rfl 2 (by decide) wd_178 rfl (a := a) (by omega) hiW_a rfl dX0_init_25 ?_
    refine r_iload_n C hl 0 rfl rfl dX0_init_28 ?_
    refine n_new C P (T := TX2) (C' := RX2) (N := 8) (ci := 2) in_X2 tyX2 tyX2_ok wd_172 wd_33 wd_11 rfl ([.int 0, .int 0, .int 0, .int 0, .int 0, .null, .null, .null]) (fun j hj => by rcases (show j = 0 ∨ j = 1 ∨ j = 2 ∨ j = 3 ∨ j = 4 ∨ j = 5 ∨ j = 6 ∨ j = 7 by omega) with rfl | rfl | rfl | rfl | rfl | rfl | rfl | rfl <;> rfl) ⟨by show _ ≤ 349; omega, by show _ ≤ 3252; omega⟩ dX0_init_29 (fun H P => ?_)
    refine r_dup C rfl dX0_init_32 ?_
    refine n_ctor C X P (rm := rmX2_init) (a := a + 2 + 58 * i) wd_174 wd_35 wd_11 wd_36 rfl (by decide +kernel) (ctX2_init l G _ (a + 2 + 58 * i) fu_s) ⟨Nat.le_of_ble_eq_true rfl, Nat.le_of_ble_eq_true rfl⟩ ⟨by show _ + 57 ≤ 349; omega, by show _ + 533 ≤ 3252; omega⟩ hl.1 (Nat.le_of_ble_eq_true rfl) dX0_init_33 (fun H L P => ?_)
    refine n_aast C P (a := a + 1) (b := a + 2 + 58 * i) (t0 := 3) (ci := 2) (r := (RX2, TX2, 8)) (cA := aS G) (N := 6) (g := rfS G a i) (vs := [.int 0, .int 0, .int 0, .int (-1), .int (-1), .ref (G.1 + (a + 2 + 58 * i + 1)), .ref (G.1 + (a + 2 + 58 * i + 2)), .ref (G.1 + (a + 2 + 58 * i + 3))]) rfl rfl (by omega) (by rw [blk_out (by omega), fu_n (by omega)]; exact hiW_1) (by omega) (by rw [blk_in (by omega), Nat.sub_self]; rfl) (i := nI i) (vp_in_nI hi6 (by decide)) dX0_init_36 (fun H L P => ?_)
    rw [nI_clamp (by omega)] at P
    have P : Hn G (hiW G f a (i + 1)) (a + 2 + 58 * (i + 1)) s H L := P.to (fun j _ => hiK1 G f a i _ _ rfl j)
    refine lv_iinc (v := nI (i + 1)) (lv' := [(1, .int (nI (i + 1))), (0, .ref (G.1 + a))]) C.1 C.2.1 dX0_init_37.1 hl (k := 0) rfl (by rw [nI_succ]; rfl) (by decide) rfl (fun ls hl => ?_)
    refine W.eq (g2 := F0 m 40 ls []) rfl ?_
    refine r_goto C dX0_init_40 ?_
    exact ih (i + 1) (by omega) _ _ _ P hl
set_option maxHeartbeats 4000000 in
set_option maxRecDepth 100000 in
theorem ctX0_init (l : Launch) (G : Gd) (f : Nat → va_E) (a : Nat) (h0 : f a = hiE .null) : CtN l yX0_init cX0_init 2 rmX0_init G [.ref (G.1 + a)] f (a + 1) (blk f a 350 (hiC G a)) (a + 350) := by
  refine ctn_of (by decide +kernel) rfl (Nat.le_of_ble_eq_true rfl) (fun p e s m below meth c ls C hin X P hl => ?_)
  have C : Cx G RX0 cX0_init 2 none p s m _ meth c := C
  have hl : lv_has ls 2 [(0, .ref (G.1 + a))] := hl
  refine r_aload_n C hl 0 rfl rfl dX0_init_0 ?_
  refine n_objInit C wd_171 hl.1 ⟨Nat.le_of_ble_eq_true rfl, Nat.le_of_ble_eq_true rfl⟩ dX0_init_1 ?_
  refine r_aload_n C hl 0 rfl rfl dX0_init_4 ?_
  refine r_bipush C (v := 6) (by decide) dX0_init_5 ?_
  refine n_newq C P wd_172 X.2.2.2.2.2.2 (t0 := 3) (cA := aS G) rfl (N := 6) ⟨by decide, by decide, by decide⟩ ⟨Nat.le_of_ble_eq_true rfl, Nat.le_of_ble_eq_true rfl⟩ dX0_init_7 (fun H P => ?_)
  refine n_putF C hin P (T := TX0) (N := 3) in_X0 tyX0 tyX0_ok nmX0 (ci := 0) rfl 2 (by decide) wd_178 rfl rfl (a := a) (by omega) (fs := [.int 0, .int 0, .null]) (by rw [fu_n (by omega)]; exact h0) (ty := (.array (.object "ThawPoints$State"))) (by decide +kernel) rfl rfl (Nat.le_of_ble_eq_true rfl) dX0_init_10 (fun H L P => ?_)
  have P : Hn G (hiW G f a 0) (a + 2) s H L := P.to (fun j _ => hiK0 G f a j)
  refine r_iconst C (v := 0) (by decide) dX0_init_13 ?_
  refine r_istore_n C [(1, .int 0), (0, .ref (G.1 + a))] hl (by decide) rfl rfl dX0_init_14 (fun ls hl => ?_)
  exact lX0_init C hin X 6 0 rfl _ _ _ P hl
theorem dX5_init_0 : Dc cX5_init 0 (.aload_n 0) 1 1 := ⟨by decide +kernel, rfl⟩
theorem dX5_init_1 : Dc cX5_init 1 (.invokespecial 1) 3 4 := ⟨by decide +kernel, rfl⟩
theorem dX5_init_4 : Dc cX5_init 4 (.aload_n 0) 1 5 := ⟨by decide +kernel, rfl⟩
theorem dX5_init_5 : Dc cX5_init 5 (.new 7) 3 8 := ⟨by decide +kernel, rfl⟩
theorem dX5_init_8 : Dc cX5_init 8 (.dup) 1 9 := ⟨by decide +kernel, rfl⟩
theorem dX5_init_9 : Dc cX5_init 9 (.invokespecial 9) 3 12 := ⟨by decide +kernel, rfl⟩
theorem dX5_init_12 : Dc cX5_init 12 (.putfield 10) 3 15 := ⟨by decide +kernel, rfl⟩
theorem dX5_init_15 : Dc cX5_init 15 (.aload_n 0) 1 16 := ⟨by decide +kernel, rfl⟩
theorem dX5_init_16 : Dc cX5_init 16 (.new 7) 3 19 := ⟨by decide +kernel, rfl⟩
theorem dX5_init_19 : Dc cX5_init 19 (.dup) 1 20 := ⟨by decide +kernel, rfl⟩
theorem dX5_init_20 : Dc cX5_init 20 (.invokespecial 9) 3 23 := ⟨by decide +kernel, rfl⟩
theorem dX5_init_23 : Dc cX5_init 23 (.putfield 16) 3 26 := ⟨by decide +kernel, rfl⟩
theorem dX5_init_26 : Dc cX5_init 26 (.aload_n 0) 1 27 := ⟨by decide +kernel, rfl⟩
theorem dX5_init_27 : Dc cX5_init 27 (.new 19) 3 30 := ⟨by decide +kernel, rfl⟩
theorem dX5_init_30 : Dc cX5_init 30 (.dup) 1 31 := ⟨by decide +kernel, rfl⟩
theorem dX5_init_31 : Dc cX5_init 31 (.invokespecial 21) 3 34 := ⟨by decide +kernel, rfl⟩
theorem dX5_init_34 : Dc cX5_init 34 (.putfield 22) 3 37 := ⟨by decide +kernel, rfl⟩
theorem dX5_init_37 : Dc cX5_init 37 (.aload_n 0) 1 38 := ⟨by decide +kernel, rfl⟩
theorem dX5_init_38 : Dc cX5_init 38 (.new 26) 3 41 := ⟨by decide +kernel, rfl⟩
theorem dX5_init_41 : Dc cX5_init 41 (.dup) 1 42 := ⟨by decide +kernel, rfl⟩
theorem dX5_init_42 : Dc cX5_init 42 (.invokespecial 28) 3 45 := ⟨by decide +kernel, rfl⟩
theorem dX5_init_45 : Dc cX5_init 45 (.putfield 29) 3 48 := ⟨by decide +kernel, rfl⟩
theorem dX5_init_48 : Dc cX5_init 48 (.return_) 1 49 := ⟨by decide +kernel, rfl⟩
def tpE (v w x y : Value) : va_E := .inr (5, [v, w, x, y, .int 0])
def tpC (G : Gd) (a r : Nat) : va_E := if r = 0 then tpE (.ref (G.1 + (a + 1))) (.ref (G.1 + (a + 59))) (.ref (G.1 + (a + 117))) (.ref (G.1 + (a + 467))) else if r < 59 then stC G (a + 1) (r - 1) else if r < 117 then stC G (a + 59) (r - 59) else if r < 467 then hiC G (a + 117) (r - 117) else wkC G (a + 467) (r - 467)
theorem tpK (G : Gd) (f : Nat → va_E) (a : Nat) (e1 e2 e3 e4 e5 e6 e7 : va_E) (j : Nat) : fu (blk (fu (fu (blk (fu (fu (blk (fu (fu (blk (fu f (a + 1) e1) (a + 1) 58 (stC G (a + 1))) a e2) (a + 59) e3) (a + 59) 58 (stC G (a + 59))) a e4) (a + 117) e5) (a + 117) 350 (hiC G (a + 117))) a e6) (a + 467) e7) (a + 467) 3 (wkC G (a + 467))) a (tpE (.ref (G.1 + (a + 1))) (.ref (G.1 + (a + 59))) (.ref (G.1 + (a + 117))) (.ref (G.1 + (a + 467)))) j = blk f a 470 (tpC G a) j := by
  by_cases h1 : j = a
  · subst h1
    rw [fu_s, blk_in (by omega), Nat.sub_self]
    rfl
  · rw [fu_n h1]
    by_cases h2 : a + 467 ≤ j ∧ j < a + 467 + 3
    · rw [blk_in h2, blk_in (by omega)]
      unfold tpC
      rw [if_neg (by omega), if_neg (by omega), if_neg (by omega), if_neg (by omega)]
      rw [show j - a - 467 = j - (a + 467) by omega]
    · rw [blk_out h2, fu_n (by omega), fu_n h1]
      by_cases h3 : a + 117 ≤ j ∧ j < a + 117 + 350
      · rw [blk_in h3, blk_in (by omega)]
        unfold tpC
        rw [if_neg (by omega), if_neg (by omega), if_neg (by omega), if_pos (by omega)]
        rw [show j - a - 117 = j - (a + 117) by omega]
      · rw [blk_out h3, fu_n (by omega), fu_n h1]
        by_cases h4 : a + 59 ≤ j ∧ j < a + 59 + 58
        · rw [blk_in h4, blk_in (by omega)]
          unfold tpC
          rw [if_neg (by omega), if_neg (by omega), if_pos (by omega)]
          rw [show j - a - 59 = j - (a + 59) by omega]
        · rw [blk_out h4, fu_n (by omega), fu_n h1]
          by_cases h5 : a + 1 ≤ j ∧ j < a + 1 + 58
          · rw [blk_in h5, blk_in (by omega)]
            unfold tpC
            rw [if_neg (by omega), if_pos (by omega)]
            rw [show j - a - 1 = j - (a + 1) by omega]
          · rw [blk_out h5, fu_n (by omega), blk_out (by omega)]
abbrev rmX5_init : Room := { frames := 5, cells := 469, slots := 4406, locals := 170 }
set_option maxHeartbeats 4000000 in
set_option maxRecDepth 100000 in
theorem ctX5_init (l : Launch) (G : Gd) (f : Nat → va_E) (a : Nat) (h0 : f a = tpE .null .null .null .null) : CtN l yX5_init cX5_init 1 rmX5_init G [.ref (G.1 + a)] f (a + 1) (blk f a 470 (tpC G a)) (a + 470) := by
  refine ctn_of (by decide +kernel) rfl (Nat.le_of_ble_eq_true rfl) (fun p e s m below meth c ls C hin X P hl => ?_)
  have C : Cx G RX5 cX5_init 1 none p s m _ meth c := C
  have hl : lv_has ls 1 [(0, .ref (G.1 + a))] := hl
  refine r_aload_n C hl 0 rfl rfl dX5_init_0 ?_
  refine n_objInit C wd_29 hl.1 ⟨Nat.le_of_ble_eq_true rfl, Nat.le_of_ble_eq_true rfl⟩ dX5_init_1 ?_
  refine r_aload_n C hl 0 rfl rfl dX5_init_4 ?_
  refine n_new C P (T := TX2) (C' := RX2) (N := 8) (ci := 2) in_X2 tyX2 tyX2_ok wd_32 wd_33 wd_11 rfl ([.int 0, .int 0, .int 0, .int 0, .int 0, .null, .null, .null]) (fun j hj => by rcases (show j = 0 ∨ j = 1 ∨ j = 2 ∨ j = 3 ∨ j = 4 ∨ j = 5 ∨ j = 6 ∨ j = 7 by omega) with rfl | rfl | rfl | rfl | rfl | rfl | rfl | rfl <;> rfl) ⟨Nat.le_of_ble_eq_true rfl, Nat.le_of_ble_eq_true rfl⟩ dX5_init_5 (fun H P => ?_)
  refine r_dup C rfl dX5_init_8 ?_
  refine n_ctor C X P (rm := rmX2_init) (a := a + 1) wd_34 wd_35 wd_11 wd_36 rfl (by decide +kernel) (ctX2_init l G _ (a + 1) fu_s) ⟨Nat.le_of_ble_eq_true rfl, Nat.le_of_ble_eq_true rfl⟩ ⟨Nat.le_of_ble_eq_true rfl, Nat.le_of_ble_eq_true rfl⟩ hl.1 (Nat.le_of_ble_eq_true rfl) dX5_init_9 (fun H L P => ?_)
  refine n_putF C hin P (T := TX5) (N := 5) in_X5 tyX5 tyX5_ok nmX5 (ci := 5) rfl 0 (by decide) wd_208 rfl rfl (a := a) (by omega) (fs := [.null, .null, .null, .null, .int 0]) (by rw [blk_out (by omega), fu_n (by omega)]; exact h0) (ty := (.object "ThawPoints$State")) (by decide +kernel) rfl rfl (Nat.le_of_ble_eq_true rfl) dX5_init_12 (fun H L P => ?_)
  refine r_aload_n C hl 0 rfl rfl dX5_init_15 ?_
  refine n_new C P (T := TX2) (C' := RX2) (N := 8) (ci := 2) in_X2 tyX2 tyX2_ok wd_32 wd_33 wd_11 rfl ([.int 0, .int 0, .int 0, .int 0, .int 0, .null, .null, .null]) (fun j hj => by rcases (show j = 0 ∨ j = 1 ∨ j = 2 ∨ j = 3 ∨ j = 4 ∨ j = 5 ∨ j = 6 ∨ j = 7 by omega) with rfl | rfl | rfl | rfl | rfl | rfl | rfl | rfl <;> rfl) ⟨Nat.le_of_ble_eq_true rfl, Nat.le_of_ble_eq_true rfl⟩ dX5_init_16 (fun H P => ?_)
  refine r_dup C rfl dX5_init_19 ?_
  refine n_ctor C X P (rm := rmX2_init) (a := a + 59) wd_34 wd_35 wd_11 wd_36 rfl (by decide +kernel) (ctX2_init l G _ (a + 59) fu_s) ⟨Nat.le_of_ble_eq_true rfl, Nat.le_of_ble_eq_true rfl⟩ ⟨Nat.le_of_ble_eq_true rfl, Nat.le_of_ble_eq_true rfl⟩ hl.1 (Nat.le_of_ble_eq_true rfl) dX5_init_20 (fun H L P => ?_)
  refine n_putF C hin P (T := TX5) (N := 5) in_X5 tyX5 tyX5_ok nmX5 (ci := 5) rfl 1 (by decide) wd_209 rfl rfl (a := a) (by omega) (fs := [.ref (G.1 + (a + 1)), .null, .null, .null, .int 0]) (by rw [blk_out (by omega), fu_n (by omega)]; exact fu_s) (ty := (.object "ThawPoints$State")) (by decide +kernel) rfl rfl (Nat.le_of_ble_eq_true rfl) dX5_init_23 (fun H L P => ?_)
  refine r_aload_n C hl 0 rfl rfl dX5_init_26 ?_
  refine n_new C P (T := TX0) (C' := RX0) (N := 3) (ci := 0) in_X0 tyX0 tyX0_ok wd_166 wd_167 wd_14 rfl ([.int 0, .int 0, .null]) (fun j hj => by rcases (show j = 0 ∨ j = 1 ∨ j = 2 by omega) with rfl | rfl | rfl <;> rfl) ⟨Nat.le_of_ble_eq_true rfl, Nat.le_of_ble_eq_true rfl⟩ dX5_init_27 (fun H P => ?_)
  refine r_dup C rfl dX5_init_30 ?_
  refine n_ctor C X P (rm := rmX0_init) (a := a + 117) wd_168 wd_169 wd_14 wd_170 rfl (by decide +kernel) (ctX0_init l G _ (a + 117) fu_s) ⟨Nat.le_of_ble_eq_true rfl, Nat.le_of_ble_eq_true rfl⟩ ⟨Nat.le_of_ble_eq_true rfl, Nat.le_of_ble_eq_true rfl⟩ hl.1 (Nat.le_of_ble_eq_true rfl) dX5_init_31 (fun H L P => ?_)
  refine n_putF C hin P (T := TX5) (N := 5) in_X5 tyX5 tyX5_ok nmX5 (ci := 5) rfl 2 (by decide) wd_210 rfl rfl (a := a) (by omega) (fs := [.ref (G.1 + (a + 1)), .ref (G.1 + (a + 59)), .null, .null, .int 0]) (by rw [blk_out (by omega), fu_n (by omega)]; exact fu_s) (ty := (.object "ThawPoints$History")) (by decide +kernel) rfl rfl (Nat.le_of_ble_eq_true rfl) dX5_init_34 (fun H L P => ?_)
  refine r_aload_n C hl 0 rfl rfl dX5_init_37 ?_
  refine n_new C P (T := TX4) (C' := RX4) (N := 6) (ci := 4) in_X4 tyX4 tyX4_ok wd_186 wd_187 wd_15 rfl ([.int 0, .null, .int 0, .int 0, .null, .int 0]) (fun j hj => by rcases (show j = 0 ∨ j = 1 ∨ j = 2 ∨ j = 3 ∨ j = 4 ∨ j = 5 by omega) with rfl | rfl | rfl | rfl | rfl | rfl <;> rfl) ⟨Nat.le_of_ble_eq_true rfl, Nat.le_of_ble_eq_true rfl⟩ dX5_init_38 (fun H P => ?_)
  refine r_dup C rfl dX5_init_41 ?_
  refine n_ctorN C X P (rm := rmX4_init) (a := a + 467) (by decide) wd_189 wd_15 wd_190 rfl (by decide +kernel) (ctX4_init l G _ (a + 467) fu_s) ⟨Nat.le_of_ble_eq_true rfl, Nat.le_of_ble_eq_true rfl⟩ ⟨Nat.le_of_ble_eq_true rfl, Nat.le_of_ble_eq_true rfl⟩ hl.1 (Nat.le_of_ble_eq_true rfl) dX5_init_42 (fun H L P => ?_)
  refine n_putF C hin P (T := TX5) (N := 5) in_X5 tyX5 tyX5_ok nmX5 (ci := 5) rfl 3 (by decide) wd_211 rfl rfl (a := a) (by omega) (fs := [.ref (G.1 + (a + 1)), .ref (G.1 + (a + 59)), .ref (G.1 + (a + 117)), .null, .int 0]) (by rw [blk_out (by omega), fu_n (by omega)]; exact fu_s) (ty := (.object "ThawPoints$Works")) (by decide +kernel) rfl rfl (Nat.le_of_ble_eq_true rfl) dX5_init_45 (fun H L P => ?_)
  exact n_vret C (P.to (fun j _ => tpK G f a _ _ _ _ _ _ _ j)) (rm := rmX5_init) ⟨rfl, rfl⟩ dX5_init_48
