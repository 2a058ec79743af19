/-- what the tables say of a call of one of the law's own methods -/
def CallFW (own : String) (idx : Nat) (y : MethodName) (bytes : ByteArray) (maxL : Nat) (hh : List (Nat × Nat × Nat × Nat)) (n : Nat) : Prop :=
  Cond.methodLink own idx y ∈ WT ∧ Cond.static y ∈ WT ∧ Cond.initialized y.cls ∈ WT ∧ Cond.codeWith y bytes maxL (some .int) hh ∈ WT ∧ (y.cls ≠ "java/lang/invoke/MethodHandle" ∧ y.cls ≠ "java/lang/invoke/VarHandle") ∧ (parseMethodDescriptor y.desc).map (fun d => d.parameters.length) = some n
section LR
variable {G : Gd} {own : String} {cc : ByteArray} {nL : Nat} {ret : Option FieldType} {p : Program} {l : Launch} {e : Env} {R : Room} {s : State} {m : MethodId} {args : Array Value} {below : List Frame} {meth : Method} {c : Code} {H : Heap} {locs : List Loc} {cells slots : Nat} {Q : State → Prop} {o : OM}
variable {pc pc' : Nat} {ls : Array Slot} {rest : List Value}
theorem w_cS (C : Cx G own cc nL ret p s m args meth c) (X : XW G s) (P : Hp G o s H locs) {idx : Nat} {y : MethodName} {bytes : ByteArray} {maxL n : Nat} {hh : List (Nat × Nat × Nat × Nat)} (F : CallFW own idx y bytes maxL hh n) {rm : Room} (As rest : List Value) {st0 : List Value} {α : Type} {FF : Option (Int32 × OM)} {K : Int32 → OM → Option α} {z : α} (hf : bn FF K = some z)
    (hM : ∀ k o1, FF = some (k, o1) → ∃ code, Ctw l y bytes maxL hh rm G As o code k o1) (hR : rm.frames + 1 ≤ R.frames ∧ 8 + (maxL + 11) + rm.locals ≤ R.locals) (hcs : cells + 1 ≤ R.cells ∧ slots + 6 ≤ R.slots) (hn : As.length = n) (hst : st0 = As.reverse ++ rest) (hsz : ls.size = nL) (hw : (rest.map fun v => v.category).sum ≤ 8) (d : Dc cc pc (.invokestatic idx) 3 pc')
    (kk : ∀ k o1 cl sl H1 L1, cl ≤ cells + 1 → sl ≤ slots + 6 → Hp G o1 s H1 L1 → K k o1 = some z → W p l e R s m args below meth c H1 L1 cl sl Q (F0 m pc' ls (.int k :: rest))) : W p l e R s m args below meth c H locs cells slots Q (F0 m pc ls st0) := by
  obtain ⟨d1, rfl⟩ := d
  obtain ⟨k, o1, g1, g2⟩ := bn_s hf
  obtain ⟨code, hM'⟩ := hM k o1 g1
  obtain ⟨f1, f2, f3, f4, f5, f6⟩ := F
  have hts := C.2.2.2.2.2.1
  have hle : mcx code ≤ 1 := by unfold mcx; split <;> omega
  have cw : vx_CSW R s args own idx y bytes maxL (some .int) hh (Cond.codeWith y bytes maxL (some .int) hh :: WT) (rmx rm code) (mcx code) (6 * mcx code) n := by
    refine ⟨⟨rfl, rfl, hR.1, hR.2, fun w hw a' U hW => ?_, List.mem_cons_self⟩, hts _ f4, hts _ f3, f5, fun sig h => ?_, hts _ f1, hts _ f2⟩
    · have hw2 : w ∈ WT := by
        rcases List.mem_cons.mp hw with h | h
        · rw [h]; exact f4
        · exact h
      exact word_at hW (wt_good w hw2) (hts w hw2)
    · rw [h] at f6
      exact (Option.some.inj f6).symm
  have hr := vx_runSX (e := e) (below := below) (meth := meth) (R := R) (H := H) (locs := locs) (cells := cells) (slots := slots) (As := As) (rest := rest) (g := F0 m pc ls st0) ⟨C.1, C.2.1, C.2.2.1, C.2.2.2.2.1, hts⟩ hM' cw (preW_S C X P) rfl hn hsz hst (lv_room hw) d1 ⟨by omega, by omega⟩
  intro T hT X0
  rcases hr T hT X0 with ⟨v, st₀, t, T', L, h0, X', hL, e1, e2, ⟨hv, hP1, hz, hk⟩, st⟩ | ⟨qa, st₀, t, T', L, E, ce, h0, X', hL, e1, e2, hx, -⟩
  · cases hv
    rw [h0] at hz hk
    have hS : va_S (fr G) s.heap T'.heap (locs ++ L) := ⟨Nat.le_trans P.2.1 (by rw [e1]; exact hz), fun q h1 h2 => by rw [e1, hk q (Nat.lt_of_lt_of_le h1 P.2.1) h2]; exact P.2.2.1 q h1 h2, fun q hq => by
      rcases List.mem_append.mp hq with h | h
      · exact P.2.2.2 q h
      · exact hL q h⟩
    obtain ⟨t2, a1, b1⟩ := kk k o1 _ _ T'.heap (locs ++ L) (by omega) (by omega) ⟨by rw [e1]; exact hP1, hS⟩ g2 T' rfl X'
    exact ⟨t2, st t2 a1, b1⟩
  · exact hx.elim
def F_L_digest (o : OM) : Option (Int64 × OM) := bn (F_X5_digest o) (fun q o1 => grd (decide (q.1 = 0)) (some (q.2, o1)))
theorem w_cD (C : Cx G own cc nL ret p s m args meth c) (X : XW G s) (hl9 : l.stackTraces = false) (P : Hp G o s H locs) {idx : Nat} (F : CallF false own idx yX5_digest cX5_digest 4 (some .long) 0) (rest : List Value) {α : Type} {K : Int64 → OM → Option α} {z : α} (hf : bn (F_L_digest o) K = some z)
    (hR : rmX5_digest.frames + 1 ≤ R.frames ∧ 8 + (4 + 11) + rmX5_digest.locals ≤ R.locals) (hcs : cells ≤ R.cells ∧ slots ≤ R.slots) (hsz : ls.size = nL) (hw : (rest.map fun v => v.category).sum ≤ 8) (d : Dc cc pc (.invokevirtual idx) 3 pc')
    (kk : ∀ v o1 H1 L1, Hp G o1 s H1 L1 → K v o1 = some z → W p l e R s m args below meth c H1 L1 cells slots Q (F0 m pc' ls (.long v :: rest))) : W p l e R s m args below meth c H locs cells slots Q (F0 m pc ls (.ref (rA G 0 0) :: rest)) := by
  obtain ⟨d1, rfl⟩ := d
  obtain ⟨v, o1, g1, g2⟩ := bn_s hf
  obtain ⟨q, o2, g3, g4⟩ := bn_s g1
  obtain ⟨g5, g6⟩ := grd_s g4
  cases g6
  have hq : q.1 = 0 := of_decide_eq_true g5
  have hM := ctX5_digest l G hl9 o g3
  have hm0 : mcx q.1 = 0 := by rw [hq]; rfl
  have hb := callB_X (R := R) C F (rm := rmx rmX5_digest q.1) hR
  have hb' := F.2.1
  rw [if_neg (by decide)] at hb'
  have hts := C.2.2.2.2.2.1
  have hv := va_recv (ci := 5) (q := (RX5, TX5, 5)) C.2.2.2.2.2.2.1 P.1 rfl (WS_at (k := 0) (i := 0) rfl)
  have hp := preX_S C X.1 P (As := [.ref (rA G 0 0)])
  have hr := vx_runV (e := e) (below := below) (meth := meth) (R := R) (H := H) (locs := locs) (cells := cells) (slots := slots) (C := RX5) (b := rA G 0 0) (As := []) (rest := rest) (g := F0 m pc ls (.ref (rA G 0 0) :: rest)) ⟨C.1, C.2.1, C.2.2.1, C.2.2.2.2.1, hts⟩ hM ⟨hb, hts _ hb'.1, hts _ hb'.2⟩ ⟨hp.1, hv, hp.2⟩ rfl rfl hsz rfl (lv_room hw) d1 ⟨by rw [hm0]; exact hcs.1, by rw [hm0]; exact hcs.2⟩
  rw [hm0] at hr
  intro T hT X0
  rcases hr T hT X0 with ⟨v, st₀, t, T', L, h0, X', hL, e1, e2, ⟨hc0, hv, hP1, hz, hk⟩, st⟩ | ⟨qa, st₀, t, T', L, E, ce, h0, X', hL, e1, e2, ⟨hE, hc0, hP1, hz, hk⟩, -⟩
  · cases hv
    rw [h0] at hz hk
    have hS : va_S (fr G) s.heap T'.heap (locs ++ L) := ⟨Nat.le_trans P.2.1 (by rw [e1]; exact hz), fun q h1 h2 => by rw [e1, hk q (Nat.lt_of_lt_of_le h1 P.2.1) h2]; exact P.2.2.1 q h1 h2, fun q hq => by
      rcases List.mem_append.mp hq with h | h
      · exact P.2.2.2 q h
      · exact hL q h⟩
    obtain ⟨t2, a1, b1⟩ := kk _ _ T'.heap (locs ++ L) ⟨by rw [e1]; exact hP1, hS⟩ g2 T' rfl X'
    exact ⟨t2, st t2 a1, b1⟩
  · exact absurd hq hc0
theorem w_sld (C : Cx G own cc nL ret p s m args meth c) {b L : Nat} {xs : Nat → Int32} (hX : va_X b L xs s s.heap) (hbl : b < s.heap.size) (hbA : ¬ fr G b) (P : Hp G o s H locs) {x : Int32} (d : Dc cc pc .iaload 1 pc') {α : Type} {K : Option α} {z : α} (hf : grd (inB x L) K = some z) (kk : K = some z → W p l e R s m args below meth c H locs cells slots Q (F0 m pc' ls (.int (xs x.toNatClampNeg) :: rest))) : W p l e R s m args below meth c H locs cells slots Q (F0 m pc ls (.int x :: .ref b :: rest)) := by
  obtain ⟨d1, rfl⟩ := d
  obtain ⟨g1, g2⟩ := grd_s hf
  exact va_sld C.1 C.2.1 hX hbl hbA P.2 (inB_in g1) d1 (kk g2)
theorem w_slen (C : Cx G own cc nL ret p s m args meth c) {b L : Nat} {xs : Nat → Int32} (hX : va_X b L xs s s.heap) (hbl : b < s.heap.size) (hbA : ¬ fr G b) (P : Hp G o s H locs) (d : Dc cc pc .arraylength 1 pc') (kk : W p l e R s m args below meth c H locs cells slots Q (F0 m pc' ls (.int (Int32.ofNat L) :: rest))) : W p l e R s m args below meth c H locs cells slots Q (F0 m pc ls (.ref b :: rest)) := by
  obtain ⟨d1, rfl⟩ := d
  exact va_slen C.1 C.2.1 hX hbl hbA P.2 d1 kk
end LR
theorem cf_L_94 : CallF false RL 94 yX6_make cX6_make 5 (some .int) 3 := ⟨wd_929, (by rw [if_neg (by decide)]; exact ⟨wd_930, wd_931⟩), wd_71, wd_932, by decide, by decide +kernel⟩
theorem cf_L_95 : CallF false RL 95 yX6_thrown cX6_thrown 1 (some .int) 0 := ⟨wd_925, (by rw [if_neg (by decide)]; exact ⟨wd_926, wd_927⟩), wd_71, wd_928, by decide, by decide +kernel⟩
theorem cf_L_101 : CallF false RL 101 yX6_breakOne cX6_breakOne 4 (some .int) 1 := ⟨wd_951, (by rw [if_neg (by decide)]; exact ⟨wd_952, wd_953⟩), wd_71, wd_954, by decide, by decide +kernel⟩
theorem cf_L_105 : CallF false RL 105 yX6_bath cX6_bath 3 (some .int) 2 := ⟨wd_963, (by rw [if_neg (by decide)]; exact ⟨wd_964, wd_965⟩), wd_71, wd_966, by decide, by decide +kernel⟩
theorem cf_L_108 : CallF false RL 108 yX6_pass cX6_pass 2 (some .int) 1 := ⟨wd_977, (by rw [if_neg (by decide)]; exact ⟨wd_978, wd_979⟩), wd_71, wd_980, by decide, by decide +kernel⟩
theorem cf_L_111 : CallF false RL 111 yX6_set cX6_set 4 (some .int) 2 := ⟨wd_985, (by rw [if_neg (by decide)]; exact ⟨wd_986, wd_987⟩), wd_71, wd_988, by decide, by decide +kernel⟩
theorem cf_L_114 : CallF false RL 114 yX6_measure cX6_measure 3 (some .int) 2 := ⟨wd_992, (by rw [if_neg (by decide)]; exact ⟨wd_993, wd_994⟩), wd_71, wd_995, by decide, by decide +kernel⟩
theorem cf_L_117 : CallF false RL 117 yX6_forget cX6_forget 3 (some .int) 2 := ⟨wd_1027, (by rw [if_neg (by decide)]; exact ⟨wd_1028, wd_1029⟩), wd_71, wd_1030, by decide, by decide +kernel⟩
theorem cf_L_120 : CallF false RL 120 yX6_paper cX6_paper 2 (some .int) 1 := ⟨wd_1031, (by rw [if_neg (by decide)]; exact ⟨wd_1032, wd_1033⟩), wd_71, wd_1034, by decide, by decide +kernel⟩
theorem cf_L_123 : CallF false RL 123 yX6_append cX6_append 2 (some .int) 1 := ⟨wd_1071, (by rw [if_neg (by decide)]; exact ⟨wd_1072, wd_1073⟩), wd_71, wd_1074, by decide, by decide +kernel⟩
theorem cf_L_124 : CallF false RL 124 yX5_clearBuffer cX5_clearBuffer 2 (some .int) 0 := ⟨wd_289, (by rw [if_neg (by decide)]; exact ⟨wd_290, wd_291⟩), wd_65, wd_292, by decide, by decide +kernel⟩
theorem cf_L_127 : CallF false RL 127 yX6_clearBuffer cX6_clearBuffer 2 (some .int) 0 := ⟨wd_1075, (by rw [if_neg (by decide)]; exact ⟨wd_1076, wd_1077⟩), wd_71, wd_1078, by decide, by decide +kernel⟩
theorem cf_L_128 : CallF false RL 128 yX5_firstError cX5_firstError 1 (some .int) 0 := ⟨wd_293, (by rw [if_neg (by decide)]; exact ⟨wd_294, wd_295⟩), wd_65, wd_296, by decide, by decide +kernel⟩
theorem cf_L_131 : CallF false RL 131 yX6_firstError cX6_firstError 2 (some .int) 0 := ⟨wd_1079, (by rw [if_neg (by decide)]; exact ⟨wd_1080, wd_1081⟩), wd_71, wd_1082, by decide, by decide +kernel⟩
theorem cf_L_135 : CallF false RL 135 yX6_work cX6_work 2 (some .int) 0 := ⟨wd_1115, (by rw [if_neg (by decide)]; exact ⟨wd_1116, wd_1117⟩), wd_71, wd_1118, by decide, by decide +kernel⟩
theorem cf_L_138 : CallF false RL 138 yX6_stopped cX6_stopped 2 (some .int) 1 := ⟨wd_1119, (by rw [if_neg (by decide)]; exact ⟨wd_1120, wd_1121⟩), wd_71, wd_1122, by decide, by decide +kernel⟩
theorem cf_L_141 : CallF false RL 141 yX6_undo cX6_undo 2 (some .int) 0 := ⟨wd_1123, (by rw [if_neg (by decide)]; exact ⟨wd_1124, wd_1125⟩), wd_71, wd_1126, by decide, by decide +kernel⟩
theorem cf_L_142 : CallF false RL 142 yX5_keep cX5_keep 1 (some .int) 0 := ⟨wd_328, (by rw [if_neg (by decide)]; exact ⟨wd_329, wd_330⟩), wd_65, wd_331, by decide, by decide +kernel⟩
theorem cf_L_145 : CallF false RL 145 yX6_keep cX6_keep 2 (some .int) 0 := ⟨wd_1127, (by rw [if_neg (by decide)]; exact ⟨wd_1128, wd_1129⟩), wd_71, wd_1130, by decide, by decide +kernel⟩
theorem cf_L_148 : CallF false RL 148 yX6_restore cX6_restore 2 (some .int) 0 := ⟨wd_1131, (by rw [if_neg (by decide)]; exact ⟨wd_1132, wd_1133⟩), wd_71, wd_1134, by decide, by decide +kernel⟩
theorem cf_L_151 : CallF false RL 151 yX6_reads cX6_reads 3 (some .int) 2 := ⟨wd_1135, (by rw [if_neg (by decide)]; exact ⟨wd_1136, wd_1137⟩), wd_71, wd_1138, by decide, by decide +kernel⟩
theorem cf_L_154 : CallF false RL 154 yX6_corrected cX6_corrected 5 (some .int) 3 := ⟨wd_1139, (by rw [if_neg (by decide)]; exact ⟨wd_1140, wd_1141⟩), wd_71, wd_1142, by decide, by decide +kernel⟩
theorem cf_L_157 : CallF false RL 157 yX6_thermometer cX6_thermometer 3 (some .int) 2 := ⟨wd_1148, (by rw [if_neg (by decide)]; exact ⟨wd_1149, wd_1150⟩), wd_71, wd_1151, by decide, by decide +kernel⟩
theorem cf_L_160 : CallF false RL 160 yX6_point cX6_point 5 (some .int) 3 := ⟨wd_1170, (by rw [if_neg (by decide)]; exact ⟨wd_1171, wd_1172⟩), wd_71, wd_1173, by decide, by decide +kernel⟩
theorem cf_L_163 : CallF false RL 163 yX6_count cX6_count 2 (some .int) 1 := ⟨wd_1178, (by rw [if_neg (by decide)]; exact ⟨wd_1179, wd_1180⟩), wd_71, wd_1181, by decide, by decide +kernel⟩
theorem cf_L_166 : CallF false RL 166 yX6_whyNot cX6_whyNot 3 (some .int) 2 := ⟨wd_1190, (by rw [if_neg (by decide)]; exact ⟨wd_1191, wd_1192⟩), wd_71, wd_1193, by decide, by decide +kernel⟩
theorem cf_L_169 : CallF false RL 169 yX6_overlap cX6_overlap 5 (some .int) 3 := ⟨wd_1194, (by rw [if_neg (by decide)]; exact ⟨wd_1195, wd_1196⟩), wd_71, wd_1197, by decide, by decide +kernel⟩
theorem cf_L_172 : CallF false RL 172 yX6_worstDegree cX6_worstDegree 3 (some .int) 2 := ⟨wd_1198, (by rw [if_neg (by decide)]; exact ⟨wd_1199, wd_1200⟩), wd_71, wd_1201, by decide, by decide +kernel⟩
theorem cf_L_175 : CallF false RL 175 yX6_voidIn cX6_voidIn 2 (some .int) 1 := ⟨wd_1206, (by rw [if_neg (by decide)]; exact ⟨wd_1207, wd_1208⟩), wd_71, wd_1209, by decide, by decide +kernel⟩
theorem cf_L_176 : CallF false RL 176 yX5_validShare cX5_validShare 1 (some .double) 0 := ⟨wd_348, (by rw [if_neg (by decide)]; exact ⟨wd_349, wd_350⟩), wd_65, wd_351, by decide, by decide +kernel⟩
theorem cf_L_180 : CallF false RL 180 yX6_validShare cX6_validShare 1 (some .double) 0 := ⟨wd_1214, (by rw [if_neg (by decide)]; exact ⟨wd_1215, wd_1216⟩), wd_71, wd_1217, by decide, by decide +kernel⟩
theorem cf_L_181 : CallF false RL 181 yX5_digest cX5_digest 4 (some .long) 0 := ⟨wd_360, (by rw [if_neg (by decide)]; exact ⟨wd_361, wd_362⟩), wd_65, wd_363, by decide, by decide +kernel⟩
theorem cf_L_185 : CallF false RL 185 yX6_digest cX6_digest 2 (some .long) 0 := ⟨wd_1222, (by rw [if_neg (by decide)]; exact ⟨wd_1223, wd_1224⟩), wd_71, wd_1225, by decide, by decide +kernel⟩
theorem cfw_89 : CallFW RL 89 yL_make cL_make 6 [(0, 12, 15, 13), (0, 12, 19, 15)] 5 := ⟨wd_628, wd_629, wd_64, wd_630, by decide, by decide +kernel⟩
theorem cfw_98 : CallFW RL 98 yL_breakOne cL_breakOne 4 [(0, 9, 12, 21)] 3 := ⟨wd_672, wd_673, wd_64, wd_674, by decide, by decide +kernel⟩
theorem cfw_102 : CallFW RL 102 yL_bath cL_bath 5 [(0, 10, 13, 21), (0, 10, 17, 13)] 4 := ⟨wd_685, wd_686, wd_64, wd_687, by decide, by decide +kernel⟩
theorem cfw_106 : CallFW RL 106 yL_pass cL_pass 4 [(0, 9, 12, 13)] 3 := ⟨wd_692, wd_693, wd_64, wd_694, by decide, by decide +kernel⟩
theorem cfw_109 : CallFW RL 109 yL_set cL_set 5 [(0, 10, 13, 21), (0, 10, 17, 13)] 4 := ⟨wd_709, wd_710, wd_64, wd_711, by decide, by decide +kernel⟩
theorem cfw_112 : CallFW RL 112 yL_measure cL_measure 5 [(0, 10, 13, 21), (0, 10, 17, 15)] 4 := ⟨wd_720, wd_721, wd_64, wd_722, by decide, by decide +kernel⟩
theorem cfw_115 : CallFW RL 115 yL_forget cL_forget 5 [(0, 10, 13, 21), (0, 10, 17, 13)] 4 := ⟨wd_750, wd_751, wd_64, wd_752, by decide, by decide +kernel⟩
theorem cfw_118 : CallFW RL 118 yL_paper cL_paper 4 [(0, 9, 12, 21), (0, 9, 15, 15)] 3 := ⟨wd_758, wd_759, wd_64, wd_760, by decide, by decide +kernel⟩
theorem cfw_121 : CallFW RL 121 yL_append cL_append 4 [(0, 9, 12, 13), (0, 9, 15, 15)] 3 := ⟨wd_770, wd_771, wd_64, wd_772, by decide, by decide +kernel⟩
theorem cfw_132 : CallFW RL 132 yL_work cL_work 3 [(0, 8, 11, 13)] 2 := ⟨wd_783, wd_784, wd_64, wd_785, by decide, by decide +kernel⟩
theorem cfw_136 : CallFW RL 136 yL_stopped cL_stopped 4 [(0, 9, 12, 13)] 3 := ⟨wd_813, wd_814, wd_64, wd_815, by decide, by decide +kernel⟩
theorem cfw_139 : CallFW RL 139 yL_undo cL_undo 3 [(0, 8, 11, 15)] 2 := ⟨wd_817, wd_818, wd_64, wd_819, by decide, by decide +kernel⟩
theorem cfw_146 : CallFW RL 146 yL_restore cL_restore 3 [(0, 8, 11, 15)] 2 := ⟨wd_829, wd_830, wd_64, wd_831, by decide, by decide +kernel⟩
theorem cfw_149 : CallFW RL 149 yL_reads cL_reads 5 [(0, 10, 13, 21), (0, 10, 17, 13)] 4 := ⟨wd_837, wd_838, wd_64, wd_839, by decide, by decide +kernel⟩
theorem cfw_152 : CallFW RL 152 yL_corrected cL_corrected 6 [(0, 12, 15, 21), (0, 12, 19, 13)] 5 := ⟨wd_841, wd_842, wd_64, wd_843, by decide, by decide +kernel⟩
theorem cfw_155 : CallFW RL 155 yL_thermometer cL_thermometer 5 [(0, 10, 13, 21), (0, 10, 17, 13)] 4 := ⟨wd_845, wd_846, wd_64, wd_847, by decide, by decide +kernel⟩
theorem cfw_158 : CallFW RL 158 yL_point cL_point 6 [(0, 12, 15, 21), (0, 12, 19, 13)] 5 := ⟨wd_849, wd_850, wd_64, wd_851, by decide, by decide +kernel⟩
theorem cfw_161 : CallFW RL 161 yL_count cL_count 4 [(0, 9, 12, 13)] 3 := ⟨wd_853, wd_854, wd_64, wd_855, by decide, by decide +kernel⟩
theorem cfw_164 : CallFW RL 164 yL_whyNot cL_whyNot 5 [(0, 10, 13, 21)] 4 := ⟨wd_857, wd_858, wd_64, wd_859, by decide, by decide +kernel⟩
theorem cfw_167 : CallFW RL 167 yL_overlap cL_overlap 6 [(0, 12, 15, 21), (0, 12, 19, 13)] 5 := ⟨wd_861, wd_862, wd_64, wd_863, by decide, by decide +kernel⟩
theorem cfw_170 : CallFW RL 170 yL_worstDegree cL_worstDegree 5 [(0, 10, 13, 21)] 4 := ⟨wd_865, wd_866, wd_64, wd_867, by decide, by decide +kernel⟩
theorem cfw_173 : CallFW RL 173 yL_voidIn cL_voidIn 4 [(0, 9, 12, 21)] 3 := ⟨wd_869, wd_870, wd_64, wd_871, by decide, by decide +kernel⟩
theorem dL_law_23 : Dc cL_law 23 (.iload 4) 2 25 := ⟨by decide +kernel, rfl⟩
theorem dL_law_25 : Dc cL_law 25 (.aload_n 0) 1 26 := ⟨by decide +kernel, rfl⟩
theorem dL_law_26 : Dc cL_law 26 (.arraylength) 1 27 := ⟨by decide +kernel, rfl⟩
theorem dL_law_27 : Dc cL_law 27 (.iconst 4) 1 28 := ⟨by decide +kernel, rfl⟩
theorem dL_law_28 : Dc cL_law 28 (.isub) 1 29 := ⟨by decide +kernel, rfl⟩
theorem dL_law_29 : Dj cL_law 29 (.if_icmp .gt 1619) 3 32 (1619) 1648 := ⟨by decide +kernel, rfl, by decide⟩
theorem dL_law_32 : Dc cL_law 32 (.aload_n 0) 1 33 := ⟨by decide +kernel, rfl⟩
theorem dL_law_33 : Dc cL_law 33 (.iload 4) 2 35 := ⟨by decide +kernel, rfl⟩
theorem dL_law_35 : Dc cL_law 35 (.iaload) 1 36 := ⟨by decide +kernel, rfl⟩
theorem dL_law_36 : Dc cL_law 36 (.bipush 31) 2 38 := ⟨by decide +kernel, rfl⟩
theorem dL_law_38 : Dc cL_law 38 (.iand) 1 39 := ⟨by decide +kernel, rfl⟩
theorem dL_law_39 : Dc cL_law 39 (.tableswitch 1603 0 26 #[121, 201, 257, 325, 381, 449, 517, 585, 641, 697, 710, 723, 767, 823, 867, 880, 924, 992, 1072, 1140, 1220, 1276, 1344, 1424, 1492, 1548, 1589]) 121 160 := ⟨by decide +kernel, rfl⟩
theorem dL_law_160 : Dc cL_law 160 (.aload_n 1) 1 161 := ⟨by decide +kernel, rfl⟩
theorem dL_law_161 : Dc cL_law 161 (.aload_n 0) 1 162 := ⟨by decide +kernel, rfl⟩
theorem dL_law_162 : Dc cL_law 162 (.iload 4) 2 164 := ⟨by decide +kernel, rfl⟩
theorem dL_law_164 : Dc cL_law 164 (.iconst 1) 1 165 := ⟨by decide +kernel, rfl⟩
theorem dL_law_165 : Dc cL_law 165 (.iadd) 1 166 := ⟨by decide +kernel, rfl⟩
theorem dL_law_166 : Dc cL_law 166 (.iaload) 1 167 := ⟨by decide +kernel, rfl⟩
theorem dL_law_167 : Dc cL_law 167 (.aload_n 0) 1 168 := ⟨by decide +kernel, rfl⟩
theorem dL_law_168 : Dc cL_law 168 (.iload 4) 2 170 := ⟨by decide +kernel, rfl⟩
theorem dL_law_170 : Dc cL_law 170 (.iconst 2) 1 171 := ⟨by decide +kernel, rfl⟩
theorem dL_law_171 : Dc cL_law 171 (.iadd) 1 172 := ⟨by decide +kernel, rfl⟩
theorem dL_law_172 : Dc cL_law 172 (.iaload) 1 173 := ⟨by decide +kernel, rfl⟩
theorem dL_law_173 : Dc cL_law 173 (.aload_n 0) 1 174 := ⟨by decide +kernel, rfl⟩
theorem dL_law_174 : Dc cL_law 174 (.iload 4) 2 176 := ⟨by decide +kernel, rfl⟩
theorem dL_law_176 : Dc cL_law 176 (.iconst 3) 1 177 := ⟨by decide +kernel, rfl⟩
theorem dL_law_177 : Dc cL_law 177 (.iadd) 1 178 := ⟨by decide +kernel, rfl⟩
theorem dL_law_178 : Dc cL_law 178 (.iaload) 1 179 := ⟨by decide +kernel, rfl⟩
theorem dL_law_179 : Dc cL_law 179 (.aload_n 3) 1 180 := ⟨by decide +kernel, rfl⟩
theorem dL_law_180 : Dc cL_law 180 (.invokestatic 89) 3 183 := ⟨by decide +kernel, rfl⟩
theorem dL_law_183 : Dc cL_law 183 (.istore 5) 2 185 := ⟨by decide +kernel, rfl⟩
theorem dL_law_185 : Dc cL_law 185 (.aload_n 2) 1 186 := ⟨by decide +kernel, rfl⟩
theorem dL_law_186 : Dc cL_law 186 (.aload_n 0) 1 187 := ⟨by decide +kernel, rfl⟩
theorem dL_law_187 : Dc cL_law 187 (.iload 4) 2 189 := ⟨by decide +kernel, rfl⟩
theorem dL_law_189 : Dc cL_law 189 (.iconst 1) 1 190 := ⟨by decide +kernel, rfl⟩
theorem dL_law_190 : Dc cL_law 190 (.iadd) 1 191 := ⟨by decide +kernel, rfl⟩
theorem dL_law_191 : Dc cL_law 191 (.iaload) 1 192 := ⟨by decide +kernel, rfl⟩
theorem dL_law_192 : Dc cL_law 192 (.aload_n 0) 1 193 := ⟨by decide +kernel, rfl⟩
theorem dL_law_193 : Dc cL_law 193 (.iload 4) 2 195 := ⟨by decide +kernel, rfl⟩
theorem dL_law_195 : Dc cL_law 195 (.iconst 2) 1 196 := ⟨by decide +kernel, rfl⟩
theorem dL_law_196 : Dc cL_law 196 (.iadd) 1 197 := ⟨by decide +kernel, rfl⟩
theorem dL_law_197 : Dc cL_law 197 (.iaload) 1 198 := ⟨by decide +kernel, rfl⟩
theorem dL_law_198 : Dc cL_law 198 (.aload_n 0) 1 199 := ⟨by decide +kernel, rfl⟩
theorem dL_law_199 : Dc cL_law 199 (.iload 4) 2 201 := ⟨by decide +kernel, rfl⟩
theorem dL_law_201 : Dc cL_law 201 (.iconst 3) 1 202 := ⟨by decide +kernel, rfl⟩
theorem dL_law_202 : Dc cL_law 202 (.iadd) 1 203 := ⟨by decide +kernel, rfl⟩
theorem dL_law_203 : Dc cL_law 203 (.iaload) 1 204 := ⟨by decide +kernel, rfl⟩
theorem dL_law_204 : Dc cL_law 204 (.invokevirtual 94) 3 207 := ⟨by decide +kernel, rfl⟩
theorem dL_law_207 : Dc cL_law 207 (.istore 6) 2 209 := ⟨by decide +kernel, rfl⟩
theorem dL_law_209 : Dc cL_law 209 (.aload_n 2) 1 210 := ⟨by decide +kernel, rfl⟩
theorem dL_law_210 : Dc cL_law 210 (.invokevirtual 95) 3 213 := ⟨by decide +kernel, rfl⟩
theorem dL_law_213 : Dc cL_law 213 (.iload 5) 2 215 := ⟨by decide +kernel, rfl⟩
theorem dL_law_215 : Dj cL_law 215 (.if_icmp .eq 5) 3 218 (5) 220 := ⟨by decide +kernel, rfl, by decide⟩
theorem dL_law_218 : Dc cL_law 218 (.iconst 0) 1 219 := ⟨by decide +kernel, rfl⟩
theorem dL_law_219 : Dc cL_law 219 (.ireturn) 1 220 := ⟨by decide +kernel, rfl⟩
theorem dL_law_220 : Dc cL_law 220 (.iload 5) 2 222 := ⟨by decide +kernel, rfl⟩
theorem dL_law_222 : Dj cL_law 222 (.ifCond .ne 15) 3 225 (15) 237 := ⟨by decide +kernel, rfl, by decide⟩
theorem dL_law_225 : Dc cL_law 225 (.aload_n 3) 1 226 := ⟨by decide +kernel, rfl⟩
theorem dL_law_226 : Dc cL_law 226 (.iconst 0) 1 227 := ⟨by decide +kernel, rfl⟩
theorem dL_law_227 : Dc cL_law 227 (.laload) 1 228 := ⟨by decide +kernel, rfl⟩
theorem dL_law_228 : Dc cL_law 228 (.iload 6) 2 230 := ⟨by decide +kernel, rfl⟩
theorem dL_law_230 : Dc cL_law 230 (.i2l) 1 231 := ⟨by decide +kernel, rfl⟩
theorem dL_law_231 : Dc cL_law 231 (.lcmp) 1 232 := ⟨by decide +kernel, rfl⟩
theorem dL_law_232 : Dj cL_law 232 (.ifCond .eq 5) 3 235 (5) 237 := ⟨by decide +kernel, rfl, by decide⟩
theorem dL_law_235 : Dc cL_law 235 (.iconst 0) 1 236 := ⟨by decide +kernel, rfl⟩
theorem dL_law_236 : Dc cL_law 236 (.ireturn) 1 237 := ⟨by decide +kernel, rfl⟩
theorem dL_law_237 : Dj cL_law 237 (.goto 1405) 3 240 (1405) 1642 := ⟨by decide +kernel, rfl, by decide⟩
theorem dL_law_240 : Dc cL_law 240 (.aload_n 1) 1 241 := ⟨by decide +kernel, rfl⟩
theorem dL_law_241 : Dc cL_law 241 (.aload_n 0) 1 242 := ⟨by decide +kernel, rfl⟩
theorem dL_law_242 : Dc cL_law 242 (.iload 4) 2 244 := ⟨by decide +kernel, rfl⟩
theorem dL_law_244 : Dc cL_law 244 (.iconst 1) 1 245 := ⟨by decide +kernel, rfl⟩
theorem dL_law_245 : Dc cL_law 245 (.iadd) 1 246 := ⟨by decide +kernel, rfl⟩
theorem dL_law_246 : Dc cL_law 246 (.iaload) 1 247 := ⟨by decide +kernel, rfl⟩
theorem dL_law_247 : Dc cL_law 247 (.aload_n 3) 1 248 := ⟨by decide +kernel, rfl⟩
theorem dL_law_248 : Dc cL_law 248 (.invokestatic 98) 3 251 := ⟨by decide +kernel, rfl⟩
theorem dL_law_251 : Dc cL_law 251 (.istore 5) 2 253 := ⟨by decide +kernel, rfl⟩
theorem dL_law_253 : Dc cL_law 253 (.aload_n 2) 1 254 := ⟨by decide +kernel, rfl⟩
theorem dL_law_254 : Dc cL_law 254 (.aload_n 0) 1 255 := ⟨by decide +kernel, rfl⟩
theorem dL_law_255 : Dc cL_law 255 (.iload 4) 2 257 := ⟨by decide +kernel, rfl⟩
theorem dL_law_257 : Dc cL_law 257 (.iconst 1) 1 258 := ⟨by decide +kernel, rfl⟩
theorem dL_law_258 : Dc cL_law 258 (.iadd) 1 259 := ⟨by decide +kernel, rfl⟩
theorem dL_law_259 : Dc cL_law 259 (.iaload) 1 260 := ⟨by decide +kernel, rfl⟩
theorem dL_law_260 : Dc cL_law 260 (.invokevirtual 101) 3 263 := ⟨by decide +kernel, rfl⟩
theorem dL_law_263 : Dc cL_law 263 (.istore 6) 2 265 := ⟨by decide +kernel, rfl⟩
theorem dL_law_265 : Dc cL_law 265 (.aload_n 2) 1 266 := ⟨by decide +kernel, rfl⟩
theorem dL_law_266 : Dc cL_law 266 (.invokevirtual 95) 3 269 := ⟨by decide +kernel, rfl⟩
theorem dL_law_269 : Dc cL_law 269 (.iload 5) 2 271 := ⟨by decide +kernel, rfl⟩
theorem dL_law_271 : Dj cL_law 271 (.if_icmp .eq 5) 3 274 (5) 276 := ⟨by decide +kernel, rfl, by decide⟩
theorem dL_law_274 : Dc cL_law 274 (.iconst 0) 1 275 := ⟨by decide +kernel, rfl⟩
theorem dL_law_275 : Dc cL_law 275 (.ireturn) 1 276 := ⟨by decide +kernel, rfl⟩
theorem dL_law_276 : Dc cL_law 276 (.iload 5) 2 278 := ⟨by decide +kernel, rfl⟩
theorem dL_law_278 : Dj cL_law 278 (.ifCond .ne 15) 3 281 (15) 293 := ⟨by decide +kernel, rfl, by decide⟩
theorem dL_law_281 : Dc cL_law 281 (.aload_n 3) 1 282 := ⟨by decide +kernel, rfl⟩
theorem dL_law_282 : Dc cL_law 282 (.iconst 0) 1 283 := ⟨by decide +kernel, rfl⟩
theorem dL_law_283 : Dc cL_law 283 (.laload) 1 284 := ⟨by decide +kernel, rfl⟩
theorem dL_law_284 : Dc cL_law 284 (.iload 6) 2 286 := ⟨by decide +kernel, rfl⟩
theorem dL_law_286 : Dc cL_law 286 (.i2l) 1 287 := ⟨by decide +kernel, rfl⟩
theorem dL_law_287 : Dc cL_law 287 (.lcmp) 1 288 := ⟨by decide +kernel, rfl⟩
theorem dL_law_288 : Dj cL_law 288 (.ifCond .eq 5) 3 291 (5) 293 := ⟨by decide +kernel, rfl, by decide⟩
theorem dL_law_291 : Dc cL_law 291 (.iconst 0) 1 292 := ⟨by decide +kernel, rfl⟩
theorem dL_law_292 : Dc cL_law 292 (.ireturn) 1 293 := ⟨by decide +kernel, rfl⟩
theorem dL_law_293 : Dj cL_law 293 (.goto 1349) 3 296 (1349) 1642 := ⟨by decide +kernel, rfl, by decide⟩
theorem dL_law_296 : Dc cL_law 296 (.aload_n 1) 1 297 := ⟨by decide +kernel, rfl⟩
theorem dL_law_297 : Dc cL_law 297 (.aload_n 0) 1 298 := ⟨by decide +kernel, rfl⟩
theorem dL_law_298 : Dc cL_law 298 (.iload 4) 2 300 := ⟨by decide +kernel, rfl⟩
theorem dL_law_300 : Dc cL_law 300 (.iconst 1) 1 301 := ⟨by decide +kernel, rfl⟩
theorem dL_law_301 : Dc cL_law 301 (.iadd) 1 302 := ⟨by decide +kernel, rfl⟩
theorem dL_law_302 : Dc cL_law 302 (.iaload) 1 303 := ⟨by decide +kernel, rfl⟩
theorem dL_law_303 : Dc cL_law 303 (.aload_n 0) 1 304 := ⟨by decide +kernel, rfl⟩
theorem dL_law_304 : Dc cL_law 304 (.iload 4) 2 306 := ⟨by decide +kernel, rfl⟩
theorem dL_law_306 : Dc cL_law 306 (.iconst 2) 1 307 := ⟨by decide +kernel, rfl⟩
theorem dL_law_307 : Dc cL_law 307 (.iadd) 1 308 := ⟨by decide +kernel, rfl⟩
theorem dL_law_308 : Dc cL_law 308 (.iaload) 1 309 := ⟨by decide +kernel, rfl⟩
theorem dL_law_309 : Dc cL_law 309 (.aload_n 3) 1 310 := ⟨by decide +kernel, rfl⟩
theorem dL_law_310 : Dc cL_law 310 (.invokestatic 102) 3 313 := ⟨by decide +kernel, rfl⟩
theorem dL_law_313 : Dc cL_law 313 (.istore 5) 2 315 := ⟨by decide +kernel, rfl⟩
theorem dL_law_315 : Dc cL_law 315 (.aload_n 2) 1 316 := ⟨by decide +kernel, rfl⟩
theorem dL_law_316 : Dc cL_law 316 (.aload_n 0) 1 317 := ⟨by decide +kernel, rfl⟩
theorem dL_law_317 : Dc cL_law 317 (.iload 4) 2 319 := ⟨by decide +kernel, rfl⟩
theorem dL_law_319 : Dc cL_law 319 (.iconst 1) 1 320 := ⟨by decide +kernel, rfl⟩
theorem dL_law_320 : Dc cL_law 320 (.iadd) 1 321 := ⟨by decide +kernel, rfl⟩
theorem dL_law_321 : Dc cL_law 321 (.iaload) 1 322 := ⟨by decide +kernel, rfl⟩
theorem dL_law_322 : Dc cL_law 322 (.aload_n 0) 1 323 := ⟨by decide +kernel, rfl⟩
theorem dL_law_323 : Dc cL_law 323 (.iload 4) 2 325 := ⟨by decide +kernel, rfl⟩
theorem dL_law_325 : Dc cL_law 325 (.iconst 2) 1 326 := ⟨by decide +kernel, rfl⟩
theorem dL_law_326 : Dc cL_law 326 (.iadd) 1 327 := ⟨by decide +kernel, rfl⟩
theorem dL_law_327 : Dc cL_law 327 (.iaload) 1 328 := ⟨by decide +kernel, rfl⟩
theorem dL_law_328 : Dc cL_law 328 (.invokevirtual 105) 3 331 := ⟨by decide +kernel, rfl⟩
theorem dL_law_331 : Dc cL_law 331 (.istore 6) 2 333 := ⟨by decide +kernel, rfl⟩
theorem dL_law_333 : Dc cL_law 333 (.aload_n 2) 1 334 := ⟨by decide +kernel, rfl⟩
theorem dL_law_334 : Dc cL_law 334 (.invokevirtual 95) 3 337 := ⟨by decide +kernel, rfl⟩
theorem dL_law_337 : Dc cL_law 337 (.iload 5) 2 339 := ⟨by decide +kernel, rfl⟩
theorem dL_law_339 : Dj cL_law 339 (.if_icmp .eq 5) 3 342 (5) 344 := ⟨by decide +kernel, rfl, by decide⟩
theorem dL_law_342 : Dc cL_law 342 (.iconst 0) 1 343 := ⟨by decide +kernel, rfl⟩
theorem dL_law_343 : Dc cL_law 343 (.ireturn) 1 344 := ⟨by decide +kernel, rfl⟩
theorem dL_law_344 : Dc cL_law 344 (.iload 5) 2 346 := ⟨by decide +kernel, rfl⟩
theorem dL_law_346 : Dj cL_law 346 (.ifCond .ne 15) 3 349 (15) 361 := ⟨by decide +kernel, rfl, by decide⟩
theorem dL_law_349 : Dc cL_law 349 (.aload_n 3) 1 350 := ⟨by decide +kernel, rfl⟩
theorem dL_law_350 : Dc cL_law 350 (.iconst 0) 1 351 := ⟨by decide +kernel, rfl⟩
theorem dL_law_351 : Dc cL_law 351 (.laload) 1 352 := ⟨by decide +kernel, rfl⟩
theorem dL_law_352 : Dc cL_law 352 (.iload 6) 2 354 := ⟨by decide +kernel, rfl⟩
theorem dL_law_354 : Dc cL_law 354 (.i2l) 1 355 := ⟨by decide +kernel, rfl⟩
theorem dL_law_355 : Dc cL_law 355 (.lcmp) 1 356 := ⟨by decide +kernel, rfl⟩
theorem dL_law_356 : Dj cL_law 356 (.ifCond .eq 5) 3 359 (5) 361 := ⟨by decide +kernel, rfl, by decide⟩
theorem dL_law_359 : Dc cL_law 359 (.iconst 0) 1 360 := ⟨by decide +kernel, rfl⟩
theorem dL_law_360 : Dc cL_law 360 (.ireturn) 1 361 := ⟨by decide +kernel, rfl⟩
theorem dL_law_361 : Dj cL_law 361 (.goto 1281) 3 364 (1281) 1642 := ⟨by decide +kernel, rfl, by decide⟩
theorem dL_law_364 : Dc cL_law 364 (.aload_n 1) 1 365 := ⟨by decide +kernel, rfl⟩
theorem dL_law_365 : Dc cL_law 365 (.aload_n 0) 1 366 := ⟨by decide +kernel, rfl⟩
theorem dL_law_366 : Dc cL_law 366 (.iload 4) 2 368 := ⟨by decide +kernel, rfl⟩
theorem dL_law_368 : Dc cL_law 368 (.iconst 1) 1 369 := ⟨by decide +kernel, rfl⟩
theorem dL_law_369 : Dc cL_law 369 (.iadd) 1 370 := ⟨by decide +kernel, rfl⟩
theorem dL_law_370 : Dc cL_law 370 (.iaload) 1 371 := ⟨by decide +kernel, rfl⟩
theorem dL_law_371 : Dc cL_law 371 (.aload_n 3) 1 372 := ⟨by decide +kernel, rfl⟩
theorem dL_law_372 : Dc cL_law 372 (.invokestatic 106) 3 375 := ⟨by decide +kernel, rfl⟩
theorem dL_law_375 : Dc cL_law 375 (.istore 5) 2 377 := ⟨by decide +kernel, rfl⟩
theorem dL_law_377 : Dc cL_law 377 (.aload_n 2) 1 378 := ⟨by decide +kernel, rfl⟩
theorem dL_law_378 : Dc cL_law 378 (.aload_n 0) 1 379 := ⟨by decide +kernel, rfl⟩
theorem dL_law_379 : Dc cL_law 379 (.iload 4) 2 381 := ⟨by decide +kernel, rfl⟩
theorem dL_law_381 : Dc cL_law 381 (.iconst 1) 1 382 := ⟨by decide +kernel, rfl⟩
theorem dL_law_382 : Dc cL_law 382 (.iadd) 1 383 := ⟨by decide +kernel, rfl⟩
theorem dL_law_383 : Dc cL_law 383 (.iaload) 1 384 := ⟨by decide +kernel, rfl⟩
theorem dL_law_384 : Dc cL_law 384 (.invokevirtual 108) 3 387 := ⟨by decide +kernel, rfl⟩
theorem dL_law_387 : Dc cL_law 387 (.istore 6) 2 389 := ⟨by decide +kernel, rfl⟩
theorem dL_law_389 : Dc cL_law 389 (.aload_n 2) 1 390 := ⟨by decide +kernel, rfl⟩
theorem dL_law_390 : Dc cL_law 390 (.invokevirtual 95) 3 393 := ⟨by decide +kernel, rfl⟩
theorem dL_law_393 : Dc cL_law 393 (.iload 5) 2 395 := ⟨by decide +kernel, rfl⟩
theorem dL_law_395 : Dj cL_law 395 (.if_icmp .eq 5) 3 398 (5) 400 := ⟨by decide +kernel, rfl, by decide⟩
theorem dL_law_398 : Dc cL_law 398 (.iconst 0) 1 399 := ⟨by decide +kernel, rfl⟩
theorem dL_law_399 : Dc cL_law 399 (.ireturn) 1 400 := ⟨by decide +kernel, rfl⟩
theorem dL_law_400 : Dc cL_law 400 (.iload 5) 2 402 := ⟨by decide +kernel, rfl⟩
theorem dL_law_402 : Dj cL_law 402 (.ifCond .ne 15) 3 405 (15) 417 := ⟨by decide +kernel, rfl, by decide⟩
theorem dL_law_405 : Dc cL_law 405 (.aload_n 3) 1 406 := ⟨by decide +kernel, rfl⟩
theorem dL_law_406 : Dc cL_law 406 (.iconst 0) 1 407 := ⟨by decide +kernel, rfl⟩
theorem dL_law_407 : Dc cL_law 407 (.laload) 1 408 := ⟨by decide +kernel, rfl⟩
theorem dL_law_408 : Dc cL_law 408 (.iload 6) 2 410 := ⟨by decide +kernel, rfl⟩
theorem dL_law_410 : Dc cL_law 410 (.i2l) 1 411 := ⟨by decide +kernel, rfl⟩
theorem dL_law_411 : Dc cL_law 411 (.lcmp) 1 412 := ⟨by decide +kernel, rfl⟩
theorem dL_law_412 : Dj cL_law 412 (.ifCond .eq 5) 3 415 (5) 417 := ⟨by decide +kernel, rfl, by decide⟩
theorem dL_law_415 : Dc cL_law 415 (.iconst 0) 1 416 := ⟨by decide +kernel, rfl⟩
theorem dL_law_416 : Dc cL_law 416 (.ireturn) 1 417 := ⟨by decide +kernel, rfl⟩
theorem dL_law_417 : Dj cL_law 417 (.goto 1225) 3 420 (1225) 1642 := ⟨by decide +kernel, rfl, by decide⟩
theorem dL_law_420 : Dc cL_law 420 (.aload_n 1) 1 421 := ⟨by decide +kernel, rfl⟩
theorem dL_law_421 : Dc cL_law 421 (.aload_n 0) 1 422 := ⟨by decide +kernel, rfl⟩
theorem dL_law_422 : Dc cL_law 422 (.iload 4) 2 424 := ⟨by decide +kernel, rfl⟩
theorem dL_law_424 : Dc cL_law 424 (.iconst 1) 1 425 := ⟨by decide +kernel, rfl⟩
theorem dL_law_425 : Dc cL_law 425 (.iadd) 1 426 := ⟨by decide +kernel, rfl⟩
theorem dL_law_426 : Dc cL_law 426 (.iaload) 1 427 := ⟨by decide +kernel, rfl⟩
theorem dL_law_427 : Dc cL_law 427 (.aload_n 0) 1 428 := ⟨by decide +kernel, rfl⟩
theorem dL_law_428 : Dc cL_law 428 (.iload 4) 2 430 := ⟨by decide +kernel, rfl⟩
theorem dL_law_430 : Dc cL_law 430 (.iconst 2) 1 431 := ⟨by decide +kernel, rfl⟩
theorem dL_law_431 : Dc cL_law 431 (.iadd) 1 432 := ⟨by decide +kernel, rfl⟩
theorem dL_law_432 : Dc cL_law 432 (.iaload) 1 433 := ⟨by decide +kernel, rfl⟩
theorem dL_law_433 : Dc cL_law 433 (.aload_n 3) 1 434 := ⟨by decide +kernel, rfl⟩
theorem dL_law_434 : Dc cL_law 434 (.invokestatic 109) 3 437 := ⟨by decide +kernel, rfl⟩
theorem dL_law_437 : Dc cL_law 437 (.istore 5) 2 439 := ⟨by decide +kernel, rfl⟩
theorem dL_law_439 : Dc cL_law 439 (.aload_n 2) 1 440 := ⟨by decide +kernel, rfl⟩
theorem dL_law_440 : Dc cL_law 440 (.aload_n 0) 1 441 := ⟨by decide +kernel, rfl⟩
theorem dL_law_441 : Dc cL_law 441 (.iload 4) 2 443 := ⟨by decide +kernel, rfl⟩
theorem dL_law_443 : Dc cL_law 443 (.iconst 1) 1 444 := ⟨by decide +kernel, rfl⟩
theorem dL_law_444 : Dc cL_law 444 (.iadd) 1 445 := ⟨by decide +kernel, rfl⟩
theorem dL_law_445 : Dc cL_law 445 (.iaload) 1 446 := ⟨by decide +kernel, rfl⟩
theorem dL_law_446 : Dc cL_law 446 (.aload_n 0) 1 447 := ⟨by decide +kernel, rfl⟩
theorem dL_law_447 : Dc cL_law 447 (.iload 4) 2 449 := ⟨by decide +kernel, rfl⟩
theorem dL_law_449 : Dc cL_law 449 (.iconst 2) 1 450 := ⟨by decide +kernel, rfl⟩
theorem dL_law_450 : Dc cL_law 450 (.iadd) 1 451 := ⟨by decide +kernel, rfl⟩
theorem dL_law_451 : Dc cL_law 451 (.iaload) 1 452 := ⟨by decide +kernel, rfl⟩
theorem dL_law_452 : Dc cL_law 452 (.invokevirtual 111) 3 455 := ⟨by decide +kernel, rfl⟩
theorem dL_law_455 : Dc cL_law 455 (.istore 6) 2 457 := ⟨by decide +kernel, rfl⟩
theorem dL_law_457 : Dc cL_law 457 (.aload_n 2) 1 458 := ⟨by decide +kernel, rfl⟩
theorem dL_law_458 : Dc cL_law 458 (.invokevirtual 95) 3 461 := ⟨by decide +kernel, rfl⟩
theorem dL_law_461 : Dc cL_law 461 (.iload 5) 2 463 := ⟨by decide +kernel, rfl⟩
theorem dL_law_463 : Dj cL_law 463 (.if_icmp .eq 5) 3 466 (5) 468 := ⟨by decide +kernel, rfl, by decide⟩
theorem dL_law_466 : Dc cL_law 466 (.iconst 0) 1 467 := ⟨by decide +kernel, rfl⟩
theorem dL_law_467 : Dc cL_law 467 (.ireturn) 1 468 := ⟨by decide +kernel, rfl⟩
theorem dL_law_468 : Dc cL_law 468 (.iload 5) 2 470 := ⟨by decide +kernel, rfl⟩
theorem dL_law_470 : Dj cL_law 470 (.ifCond .ne 15) 3 473 (15) 485 := ⟨by decide +kernel, rfl, by decide⟩
theorem dL_law_473 : Dc cL_law 473 (.aload_n 3) 1 474 := ⟨by decide +kernel, rfl⟩
theorem dL_law_474 : Dc cL_law 474 (.iconst 0) 1 475 := ⟨by decide +kernel, rfl⟩
theorem dL_law_475 : Dc cL_law 475 (.laload) 1 476 := ⟨by decide +kernel, rfl⟩
theorem dL_law_476 : Dc cL_law 476 (.iload 6) 2 478 := ⟨by decide +kernel, rfl⟩
theorem dL_law_478 : Dc cL_law 478 (.i2l) 1 479 := ⟨by decide +kernel, rfl⟩
theorem dL_law_479 : Dc cL_law 479 (.lcmp) 1 480 := ⟨by decide +kernel, rfl⟩
theorem dL_law_480 : Dj cL_law 480 (.ifCond .eq 5) 3 483 (5) 485 := ⟨by decide +kernel, rfl, by decide⟩
theorem dL_law_483 : Dc cL_law 483 (.iconst 0) 1 484 := ⟨by decide +kernel, rfl⟩
theorem dL_law_484 : Dc cL_law 484 (.ireturn) 1 485 := ⟨by decide +kernel, rfl⟩
theorem dL_law_485 : Dj cL_law 485 (.goto 1157) 3 488 (1157) 1642 := ⟨by decide +kernel, rfl, by decide⟩
theorem dL_law_488 : Dc cL_law 488 (.aload_n 1) 1 489 := ⟨by decide +kernel, rfl⟩
theorem dL_law_489 : Dc cL_law 489 (.aload_n 0) 1 490 := ⟨by decide +kernel, rfl⟩
theorem dL_law_490 : Dc cL_law 490 (.iload 4) 2 492 := ⟨by decide +kernel, rfl⟩
theorem dL_law_492 : Dc cL_law 492 (.iconst 1) 1 493 := ⟨by decide +kernel, rfl⟩
theorem dL_law_493 : Dc cL_law 493 (.iadd) 1 494 := ⟨by decide +kernel, rfl⟩
theorem dL_law_494 : Dc cL_law 494 (.iaload) 1 495 := ⟨by decide +kernel, rfl⟩
theorem dL_law_495 : Dc cL_law 495 (.aload_n 0) 1 496 := ⟨by decide +kernel, rfl⟩
theorem dL_law_496 : Dc cL_law 496 (.iload 4) 2 498 := ⟨by decide +kernel, rfl⟩
theorem dL_law_498 : Dc cL_law 498 (.iconst 2) 1 499 := ⟨by decide +kernel, rfl⟩
theorem dL_law_499 : Dc cL_law 499 (.iadd) 1 500 := ⟨by decide +kernel, rfl⟩
theorem dL_law_500 : Dc cL_law 500 (.iaload) 1 501 := ⟨by decide +kernel, rfl⟩
theorem dL_law_501 : Dc cL_law 501 (.aload_n 3) 1 502 := ⟨by decide +kernel, rfl⟩
theorem dL_law_502 : Dc cL_law 502 (.invokestatic 112) 3 505 := ⟨by decide +kernel, rfl⟩
theorem dL_law_505 : Dc cL_law 505 (.istore 5) 2 507 := ⟨by decide +kernel, rfl⟩
theorem dL_law_507 : Dc cL_law 507 (.aload_n 2) 1 508 := ⟨by decide +kernel, rfl⟩
theorem dL_law_508 : Dc cL_law 508 (.aload_n 0) 1 509 := ⟨by decide +kernel, rfl⟩
theorem dL_law_509 : Dc cL_law 509 (.iload 4) 2 511 := ⟨by decide +kernel, rfl⟩
theorem dL_law_511 : Dc cL_law 511 (.iconst 1) 1 512 := ⟨by decide +kernel, rfl⟩
theorem dL_law_512 : Dc cL_law 512 (.iadd) 1 513 := ⟨by decide +kernel, rfl⟩
theorem dL_law_513 : Dc cL_law 513 (.iaload) 1 514 := ⟨by decide +kernel, rfl⟩
theorem dL_law_514 : Dc cL_law 514 (.aload_n 0) 1 515 := ⟨by decide +kernel, rfl⟩
theorem dL_law_515 : Dc cL_law 515 (.iload 4) 2 517 := ⟨by decide +kernel, rfl⟩
theorem dL_law_517 : Dc cL_law 517 (.iconst 2) 1 518 := ⟨by decide +kernel, rfl⟩
theorem dL_law_518 : Dc cL_law 518 (.iadd) 1 519 := ⟨by decide +kernel, rfl⟩
theorem dL_law_519 : Dc cL_law 519 (.iaload) 1 520 := ⟨by decide +kernel, rfl⟩
theorem dL_law_520 : Dc cL_law 520 (.invokevirtual 114) 3 523 := ⟨by decide +kernel, rfl⟩
theorem dL_law_523 : Dc cL_law 523 (.istore 6) 2 525 := ⟨by decide +kernel, rfl⟩
theorem dL_law_525 : Dc cL_law 525 (.aload_n 2) 1 526 := ⟨by decide +kernel, rfl⟩
theorem dL_law_526 : Dc cL_law 526 (.invokevirtual 95) 3 529 := ⟨by decide +kernel, rfl⟩
theorem dL_law_529 : Dc cL_law 529 (.iload 5) 2 531 := ⟨by decide +kernel, rfl⟩
theorem dL_law_531 : Dj cL_law 531 (.if_icmp .eq 5) 3 534 (5) 536 := ⟨by decide +kernel, rfl, by decide⟩
theorem dL_law_534 : Dc cL_law 534 (.iconst 0) 1 535 := ⟨by decide +kernel, rfl⟩
theorem dL_law_535 : Dc cL_law 535 (.ireturn) 1 536 := ⟨by decide +kernel, rfl⟩
theorem dL_law_536 : Dc cL_law 536 (.iload 5) 2 538 := ⟨by decide +kernel, rfl⟩
theorem dL_law_538 : Dj cL_law 538 (.ifCond .ne 15) 3 541 (15) 553 := ⟨by decide +kernel, rfl, by decide⟩
theorem dL_law_541 : Dc cL_law 541 (.aload_n 3) 1 542 := ⟨by decide +kernel, rfl⟩
theorem dL_law_542 : Dc cL_law 542 (.iconst 0) 1 543 := ⟨by decide +kernel, rfl⟩
theorem dL_law_543 : Dc cL_law 543 (.laload) 1 544 := ⟨by decide +kernel, rfl⟩
theorem dL_law_544 : Dc cL_law 544 (.iload 6) 2 546 := ⟨by decide +kernel, rfl⟩
theorem dL_law_546 : Dc cL_law 546 (.i2l) 1 547 := ⟨by decide +kernel, rfl⟩
theorem dL_law_547 : Dc cL_law 547 (.lcmp) 1 548 := ⟨by decide +kernel, rfl⟩
theorem dL_law_548 : Dj cL_law 548 (.ifCond .eq 5) 3 551 (5) 553 := ⟨by decide +kernel, rfl, by decide⟩
theorem dL_law_551 : Dc cL_law 551 (.iconst 0) 1 552 := ⟨by decide +kernel, rfl⟩
theorem dL_law_552 : Dc cL_law 552 (.ireturn) 1 553 := ⟨by decide +kernel, rfl⟩
theorem dL_law_553 : Dj cL_law 553 (.goto 1089) 3 556 (1089) 1642 := ⟨by decide +kernel, rfl, by decide⟩
theorem dL_law_556 : Dc cL_law 556 (.aload_n 1) 1 557 := ⟨by decide +kernel, rfl⟩
theorem dL_law_557 : Dc cL_law 557 (.aload_n 0) 1 558 := ⟨by decide +kernel, rfl⟩
theorem dL_law_558 : Dc cL_law 558 (.iload 4) 2 560 := ⟨by decide +kernel, rfl⟩
theorem dL_law_560 : Dc cL_law 560 (.iconst 1) 1 561 := ⟨by decide +kernel, rfl⟩
theorem dL_law_561 : Dc cL_law 561 (.iadd) 1 562 := ⟨by decide +kernel, rfl⟩
theorem dL_law_562 : Dc cL_law 562 (.iaload) 1 563 := ⟨by decide +kernel, rfl⟩
theorem dL_law_563 : Dc cL_law 563 (.aload_n 0) 1 564 := ⟨by decide +kernel, rfl⟩
theorem dL_law_564 : Dc cL_law 564 (.iload 4) 2 566 := ⟨by decide +kernel, rfl⟩
theorem dL_law_566 : Dc cL_law 566 (.iconst 2) 1 567 := ⟨by decide +kernel, rfl⟩
theorem dL_law_567 : Dc cL_law 567 (.iadd) 1 568 := ⟨by decide +kernel, rfl⟩
theorem dL_law_568 : Dc cL_law 568 (.iaload) 1 569 := ⟨by decide +kernel, rfl⟩
theorem dL_law_569 : Dc cL_law 569 (.aload_n 3) 1 570 := ⟨by decide +kernel, rfl⟩
theorem dL_law_570 : Dc cL_law 570 (.invokestatic 115) 3 573 := ⟨by decide +kernel, rfl⟩
theorem dL_law_573 : Dc cL_law 573 (.istore 5) 2 575 := ⟨by decide +kernel, rfl⟩
theorem dL_law_575 : Dc cL_law 575 (.aload_n 2) 1 576 := ⟨by decide +kernel, rfl⟩
theorem dL_law_576 : Dc cL_law 576 (.aload_n 0) 1 577 := ⟨by decide +kernel, rfl⟩
theorem dL_law_577 : Dc cL_law 577 (.iload 4) 2 579 := ⟨by decide +kernel, rfl⟩
theorem dL_law_579 : Dc cL_law 579 (.iconst 1) 1 580 := ⟨by decide +kernel, rfl⟩
theorem dL_law_580 : Dc cL_law 580 (.iadd) 1 581 := ⟨by decide +kernel, rfl⟩
theorem dL_law_581 : Dc cL_law 581 (.iaload) 1 582 := ⟨by decide +kernel, rfl⟩
theorem dL_law_582 : Dc cL_law 582 (.aload_n 0) 1 583 := ⟨by decide +kernel, rfl⟩
theorem dL_law_583 : Dc cL_law 583 (.iload 4) 2 585 := ⟨by decide +kernel, rfl⟩
theorem dL_law_585 : Dc cL_law 585 (.iconst 2) 1 586 := ⟨by decide +kernel, rfl⟩
theorem dL_law_586 : Dc cL_law 586 (.iadd) 1 587 := ⟨by decide +kernel, rfl⟩
theorem dL_law_587 : Dc cL_law 587 (.iaload) 1 588 := ⟨by decide +kernel, rfl⟩
theorem dL_law_588 : Dc cL_law 588 (.invokevirtual 117) 3 591 := ⟨by decide +kernel, rfl⟩
theorem dL_law_591 : Dc cL_law 591 (.istore 6) 2 593 := ⟨by decide +kernel, rfl⟩
theorem dL_law_593 : Dc cL_law 593 (.aload_n 2) 1 594 := ⟨by decide +kernel, rfl⟩
theorem dL_law_594 : Dc cL_law 594 (.invokevirtual 95) 3 597 := ⟨by decide +kernel, rfl⟩
theorem dL_law_597 : Dc cL_law 597 (.iload 5) 2 599 := ⟨by decide +kernel, rfl⟩
theorem dL_law_599 : Dj cL_law 599 (.if_icmp .eq 5) 3 602 (5) 604 := ⟨by decide +kernel, rfl, by decide⟩
theorem dL_law_602 : Dc cL_law 602 (.iconst 0) 1 603 := ⟨by decide +kernel, rfl⟩
theorem dL_law_603 : Dc cL_law 603 (.ireturn) 1 604 := ⟨by decide +kernel, rfl⟩
theorem dL_law_604 : Dc cL_law 604 (.iload 5) 2 606 := ⟨by decide +kernel, rfl⟩
theorem dL_law_606 : Dj cL_law 606 (.ifCond .ne 15) 3 609 (15) 621 := ⟨by decide +kernel, rfl, by decide⟩
theorem dL_law_609 : Dc cL_law 609 (.aload_n 3) 1 610 := ⟨by decide +kernel, rfl⟩
theorem dL_law_610 : Dc cL_law 610 (.iconst 0) 1 611 := ⟨by decide +kernel, rfl⟩
theorem dL_law_611 : Dc cL_law 611 (.laload) 1 612 := ⟨by decide +kernel, rfl⟩
theorem dL_law_612 : Dc cL_law 612 (.iload 6) 2 614 := ⟨by decide +kernel, rfl⟩
theorem dL_law_614 : Dc cL_law 614 (.i2l) 1 615 := ⟨by decide +kernel, rfl⟩
theorem dL_law_615 : Dc cL_law 615 (.lcmp) 1 616 := ⟨by decide +kernel, rfl⟩
theorem dL_law_616 : Dj cL_law 616 (.ifCond .eq 5) 3 619 (5) 621 := ⟨by decide +kernel, rfl, by decide⟩
theorem dL_law_619 : Dc cL_law 619 (.iconst 0) 1 620 := ⟨by decide +kernel, rfl⟩
theorem dL_law_620 : Dc cL_law 620 (.ireturn) 1 621 := ⟨by decide +kernel, rfl⟩
theorem dL_law_621 : Dj cL_law 621 (.goto 1021) 3 624 (1021) 1642 := ⟨by decide +kernel, rfl, by decide⟩
theorem dL_law_624 : Dc cL_law 624 (.aload_n 1) 1 625 := ⟨by decide +kernel, rfl⟩
theorem dL_law_625 : Dc cL_law 625 (.aload_n 0) 1 626 := ⟨by decide +kernel, rfl⟩
theorem dL_law_626 : Dc cL_law 626 (.iload 4) 2 628 := ⟨by decide +kernel, rfl⟩
theorem dL_law_628 : Dc cL_law 628 (.iconst 1) 1 629 := ⟨by decide +kernel, rfl⟩
theorem dL_law_629 : Dc cL_law 629 (.iadd) 1 630 := ⟨by decide +kernel, rfl⟩
theorem dL_law_630 : Dc cL_law 630 (.iaload) 1 631 := ⟨by decide +kernel, rfl⟩
theorem dL_law_631 : Dc cL_law 631 (.aload_n 3) 1 632 := ⟨by decide +kernel, rfl⟩
theorem dL_law_632 : Dc cL_law 632 (.invokestatic 118) 3 635 := ⟨by decide +kernel, rfl⟩
theorem dL_law_635 : Dc cL_law 635 (.istore 5) 2 637 := ⟨by decide +kernel, rfl⟩
theorem dL_law_637 : Dc cL_law 637 (.aload_n 2) 1 638 := ⟨by decide +kernel, rfl⟩
theorem dL_law_638 : Dc cL_law 638 (.aload_n 0) 1 639 := ⟨by decide +kernel, rfl⟩
theorem dL_law_639 : Dc cL_law 639 (.iload 4) 2 641 := ⟨by decide +kernel, rfl⟩
theorem dL_law_641 : Dc cL_law 641 (.iconst 1) 1 642 := ⟨by decide +kernel, rfl⟩
theorem dL_law_642 : Dc cL_law 642 (.iadd) 1 643 := ⟨by decide +kernel, rfl⟩
theorem dL_law_643 : Dc cL_law 643 (.iaload) 1 644 := ⟨by decide +kernel, rfl⟩
theorem dL_law_644 : Dc cL_law 644 (.invokevirtual 120) 3 647 := ⟨by decide +kernel, rfl⟩
theorem dL_law_647 : Dc cL_law 647 (.istore 6) 2 649 := ⟨by decide +kernel, rfl⟩
theorem dL_law_649 : Dc cL_law 649 (.aload_n 2) 1 650 := ⟨by decide +kernel, rfl⟩
theorem dL_law_650 : Dc cL_law 650 (.invokevirtual 95) 3 653 := ⟨by decide +kernel, rfl⟩
theorem dL_law_653 : Dc cL_law 653 (.iload 5) 2 655 := ⟨by decide +kernel, rfl⟩
theorem dL_law_655 : Dj cL_law 655 (.if_icmp .eq 5) 3 658 (5) 660 := ⟨by decide +kernel, rfl, by decide⟩
theorem dL_law_658 : Dc cL_law 658 (.iconst 0) 1 659 := ⟨by decide +kernel, rfl⟩
theorem dL_law_659 : Dc cL_law 659 (.ireturn) 1 660 := ⟨by decide +kernel, rfl⟩
theorem dL_law_660 : Dc cL_law 660 (.iload 5) 2 662 := ⟨by decide +kernel, rfl⟩
theorem dL_law_662 : Dj cL_law 662 (.ifCond .ne 15) 3 665 (15) 677 := ⟨by decide +kernel, rfl, by decide⟩
theorem dL_law_665 : Dc cL_law 665 (.aload_n 3) 1 666 := ⟨by decide +kernel, rfl⟩
theorem dL_law_666 : Dc cL_law 666 (.iconst 0) 1 667 := ⟨by decide +kernel, rfl⟩
theorem dL_law_667 : Dc cL_law 667 (.laload) 1 668 := ⟨by decide +kernel, rfl⟩
theorem dL_law_668 : Dc cL_law 668 (.iload 6) 2 670 := ⟨by decide +kernel, rfl⟩
theorem dL_law_670 : Dc cL_law 670 (.i2l) 1 671 := ⟨by decide +kernel, rfl⟩
theorem dL_law_671 : Dc cL_law 671 (.lcmp) 1 672 := ⟨by decide +kernel, rfl⟩
theorem dL_law_672 : Dj cL_law 672 (.ifCond .eq 5) 3 675 (5) 677 := ⟨by decide +kernel, rfl, by decide⟩
theorem dL_law_675 : Dc cL_law 675 (.iconst 0) 1 676 := ⟨by decide +kernel, rfl⟩
theorem dL_law_676 : Dc cL_law 676 (.ireturn) 1 677 := ⟨by decide +kernel, rfl⟩
theorem dL_law_677 : Dj cL_law 677 (.goto 965) 3 680 (965) 1642 := ⟨by decide +kernel, rfl, by decide⟩
theorem dL_law_680 : Dc cL_law 680 (.aload_n 1) 1 681 := ⟨by decide +kernel, rfl⟩
theorem dL_law_681 : Dc cL_law 681 (.aload_n 0) 1 682 := ⟨by decide +kernel, rfl⟩
theorem dL_law_682 : Dc cL_law 682 (.iload 4) 2 684 := ⟨by decide +kernel, rfl⟩
theorem dL_law_684 : Dc cL_law 684 (.iconst 1) 1 685 := ⟨by decide +kernel, rfl⟩
theorem dL_law_685 : Dc cL_law 685 (.iadd) 1 686 := ⟨by decide +kernel, rfl⟩
theorem dL_law_686 : Dc cL_law 686 (.iaload) 1 687 := ⟨by decide +kernel, rfl⟩
theorem dL_law_687 : Dc cL_law 687 (.aload_n 3) 1 688 := ⟨by decide +kernel, rfl⟩
theorem dL_law_688 : Dc cL_law 688 (.invokestatic 121) 3 691 := ⟨by decide +kernel, rfl⟩
theorem dL_law_691 : Dc cL_law 691 (.istore 5) 2 693 := ⟨by decide +kernel, rfl⟩
theorem dL_law_693 : Dc cL_law 693 (.aload_n 2) 1 694 := ⟨by decide +kernel, rfl⟩
theorem dL_law_694 : Dc cL_law 694 (.aload_n 0) 1 695 := ⟨by decide +kernel, rfl⟩
theorem dL_law_695 : Dc cL_law 695 (.iload 4) 2 697 := ⟨by decide +kernel, rfl⟩
theorem dL_law_697 : Dc cL_law 697 (.iconst 1) 1 698 := ⟨by decide +kernel, rfl⟩
theorem dL_law_698 : Dc cL_law 698 (.iadd) 1 699 := ⟨by decide +kernel, rfl⟩
theorem dL_law_699 : Dc cL_law 699 (.iaload) 1 700 := ⟨by decide +kernel, rfl⟩
theorem dL_law_700 : Dc cL_law 700 (.invokevirtual 123) 3 703 := ⟨by decide +kernel, rfl⟩
theorem dL_law_703 : Dc cL_law 703 (.istore 6) 2 705 := ⟨by decide +kernel, rfl⟩
theorem dL_law_705 : Dc cL_law 705 (.aload_n 2) 1 706 := ⟨by decide +kernel, rfl⟩
theorem dL_law_706 : Dc cL_law 706 (.invokevirtual 95) 3 709 := ⟨by decide +kernel, rfl⟩
theorem dL_law_709 : Dc cL_law 709 (.iload 5) 2 711 := ⟨by decide +kernel, rfl⟩
theorem dL_law_711 : Dj cL_law 711 (.if_icmp .eq 5) 3 714 (5) 716 := ⟨by decide +kernel, rfl, by decide⟩
theorem dL_law_714 : Dc cL_law 714 (.iconst 0) 1 715 := ⟨by decide +kernel, rfl⟩
theorem dL_law_715 : Dc cL_law 715 (.ireturn) 1 716 := ⟨by decide +kernel, rfl⟩
theorem dL_law_716 : Dc cL_law 716 (.iload 5) 2 718 := ⟨by decide +kernel, rfl⟩
theorem dL_law_718 : Dj cL_law 718 (.ifCond .ne 15) 3 721 (15) 733 := ⟨by decide +kernel, rfl, by decide⟩
theorem dL_law_721 : Dc cL_law 721 (.aload_n 3) 1 722 := ⟨by decide +kernel, rfl⟩
theorem dL_law_722 : Dc cL_law 722 (.iconst 0) 1 723 := ⟨by decide +kernel, rfl⟩
theorem dL_law_723 : Dc cL_law 723 (.laload) 1 724 := ⟨by decide +kernel, rfl⟩
theorem dL_law_724 : Dc cL_law 724 (.iload 6) 2 726 := ⟨by decide +kernel, rfl⟩
theorem dL_law_726 : Dc cL_law 726 (.i2l) 1 727 := ⟨by decide +kernel, rfl⟩
theorem dL_law_727 : Dc cL_law 727 (.lcmp) 1 728 := ⟨by decide +kernel, rfl⟩
theorem dL_law_728 : Dj cL_law 728 (.ifCond .eq 5) 3 731 (5) 733 := ⟨by decide +kernel, rfl, by decide⟩
theorem dL_law_731 : Dc cL_law 731 (.iconst 0) 1 732 := ⟨by decide +kernel, rfl⟩
theorem dL_law_732 : Dc cL_law 732 (.ireturn) 1 733 := ⟨by decide +kernel, rfl⟩
theorem dL_law_733 : Dj cL_law 733 (.goto 909) 3 736 (909) 1642 := ⟨by decide +kernel, rfl, by decide⟩
theorem dL_law_736 : Dc cL_law 736 (.aload_n 1) 1 737 := ⟨by decide +kernel, rfl⟩
theorem dL_law_737 : Dc cL_law 737 (.invokevirtual 124) 3 740 := ⟨by decide +kernel, rfl⟩
theorem dL_law_740 : Dc cL_law 740 (.aload_n 2) 1 741 := ⟨by decide +kernel, rfl⟩
theorem dL_law_741 : Dc cL_law 741 (.invokevirtual 127) 3 744 := ⟨by decide +kernel, rfl⟩
theorem dL_law_744 : Dj cL_law 744 (.if_icmp .eq 898) 3 747 (898) 1642 := ⟨by decide +kernel, rfl, by decide⟩
theorem dL_law_747 : Dc cL_law 747 (.iconst 0) 1 748 := ⟨by decide +kernel, rfl⟩
theorem dL_law_748 : Dc cL_law 748 (.ireturn) 1 749 := ⟨by decide +kernel, rfl⟩
theorem dL_law_749 : Dc cL_law 749 (.aload_n 1) 1 750 := ⟨by decide +kernel, rfl⟩
theorem dL_law_750 : Dc cL_law 750 (.invokevirtual 128) 3 753 := ⟨by decide +kernel, rfl⟩
theorem dL_law_753 : Dc cL_law 753 (.aload_n 2) 1 754 := ⟨by decide +kernel, rfl⟩
theorem dL_law_754 : Dc cL_law 754 (.invokevirtual 131) 3 757 := ⟨by decide +kernel, rfl⟩
theorem dL_law_757 : Dj cL_law 757 (.if_icmp .eq 885) 3 760 (885) 1642 := ⟨by decide +kernel, rfl, by decide⟩
theorem dL_law_760 : Dc cL_law 760 (.iconst 0) 1 761 := ⟨by decide +kernel, rfl⟩
theorem dL_law_761 : Dc cL_law 761 (.ireturn) 1 762 := ⟨by decide +kernel, rfl⟩
theorem dL_law_762 : Dc cL_law 762 (.aload_n 1) 1 763 := ⟨by decide +kernel, rfl⟩
theorem dL_law_763 : Dc cL_law 763 (.aload_n 3) 1 764 := ⟨by decide +kernel, rfl⟩
theorem dL_law_764 : Dc cL_law 764 (.invokestatic 132) 3 767 := ⟨by decide +kernel, rfl⟩
theorem dL_law_767 : Dc cL_law 767 (.istore 5) 2 769 := ⟨by decide +kernel, rfl⟩
theorem dL_law_769 : Dc cL_law 769 (.aload_n 2) 1 770 := ⟨by decide +kernel, rfl⟩
theorem dL_law_770 : Dc cL_law 770 (.invokevirtual 135) 3 773 := ⟨by decide +kernel, rfl⟩
theorem dL_law_773 : Dc cL_law 773 (.istore 6) 2 775 := ⟨by decide +kernel, rfl⟩
theorem dL_law_775 : Dc cL_law 775 (.aload_n 2) 1 776 := ⟨by decide +kernel, rfl⟩
theorem dL_law_776 : Dc cL_law 776 (.invokevirtual 95) 3 779 := ⟨by decide +kernel, rfl⟩
theorem dL_law_779 : Dc cL_law 779 (.iload 5) 2 781 := ⟨by decide +kernel, rfl⟩
theorem dL_law_781 : Dj cL_law 781 (.if_icmp .eq 5) 3 784 (5) 786 := ⟨by decide +kernel, rfl, by decide⟩
theorem dL_law_784 : Dc cL_law 784 (.iconst 0) 1 785 := ⟨by decide +kernel, rfl⟩
theorem dL_law_785 : Dc cL_law 785 (.ireturn) 1 786 := ⟨by decide +kernel, rfl⟩
theorem dL_law_786 : Dc cL_law 786 (.iload 5) 2 788 := ⟨by decide +kernel, rfl⟩
theorem dL_law_788 : Dj cL_law 788 (.ifCond .ne 15) 3 791 (15) 803 := ⟨by decide +kernel, rfl, by decide⟩
theorem dL_law_791 : Dc cL_law 791 (.aload_n 3) 1 792 := ⟨by decide +kernel, rfl⟩
theorem dL_law_792 : Dc cL_law 792 (.iconst 0) 1 793 := ⟨by decide +kernel, rfl⟩
theorem dL_law_793 : Dc cL_law 793 (.laload) 1 794 := ⟨by decide +kernel, rfl⟩
theorem dL_law_794 : Dc cL_law 794 (.iload 6) 2 796 := ⟨by decide +kernel, rfl⟩
theorem dL_law_796 : Dc cL_law 796 (.i2l) 1 797 := ⟨by decide +kernel, rfl⟩
theorem dL_law_797 : Dc cL_law 797 (.lcmp) 1 798 := ⟨by decide +kernel, rfl⟩
theorem dL_law_798 : Dj cL_law 798 (.ifCond .eq 5) 3 801 (5) 803 := ⟨by decide +kernel, rfl, by decide⟩
theorem dL_law_801 : Dc cL_law 801 (.iconst 0) 1 802 := ⟨by decide +kernel, rfl⟩
theorem dL_law_802 : Dc cL_law 802 (.ireturn) 1 803 := ⟨by decide +kernel, rfl⟩
theorem dL_law_803 : Dj cL_law 803 (.goto 839) 3 806 (839) 1642 := ⟨by decide +kernel, rfl, by decide⟩
theorem dL_law_806 : Dc cL_law 806 (.aload_n 1) 1 807 := ⟨by decide +kernel, rfl⟩
theorem dL_law_807 : Dc cL_law 807 (.aload_n 0) 1 808 := ⟨by decide +kernel, rfl⟩
theorem dL_law_808 : Dc cL_law 808 (.iload 4) 2 810 := ⟨by decide +kernel, rfl⟩
theorem dL_law_810 : Dc cL_law 810 (.iconst 1) 1 811 := ⟨by decide +kernel, rfl⟩
theorem dL_law_811 : Dc cL_law 811 (.iadd) 1 812 := ⟨by decide +kernel, rfl⟩
theorem dL_law_812 : Dc cL_law 812 (.iaload) 1 813 := ⟨by decide +kernel, rfl⟩
theorem dL_law_813 : Dc cL_law 813 (.aload_n 3) 1 814 := ⟨by decide +kernel, rfl⟩
theorem dL_law_814 : Dc cL_law 814 (.invokestatic 136) 3 817 := ⟨by decide +kernel, rfl⟩
theorem dL_law_817 : Dc cL_law 817 (.istore 5) 2 819 := ⟨by decide +kernel, rfl⟩
theorem dL_law_819 : Dc cL_law 819 (.aload_n 2) 1 820 := ⟨by decide +kernel, rfl⟩
theorem dL_law_820 : Dc cL_law 820 (.aload_n 0) 1 821 := ⟨by decide +kernel, rfl⟩
theorem dL_law_821 : Dc cL_law 821 (.iload 4) 2 823 := ⟨by decide +kernel, rfl⟩
theorem dL_law_823 : Dc cL_law 823 (.iconst 1) 1 824 := ⟨by decide +kernel, rfl⟩
theorem dL_law_824 : Dc cL_law 824 (.iadd) 1 825 := ⟨by decide +kernel, rfl⟩
theorem dL_law_825 : Dc cL_law 825 (.iaload) 1 826 := ⟨by decide +kernel, rfl⟩
theorem dL_law_826 : Dc cL_law 826 (.invokevirtual 138) 3 829 := ⟨by decide +kernel, rfl⟩
theorem dL_law_829 : Dc cL_law 829 (.istore 6) 2 831 := ⟨by decide +kernel, rfl⟩
theorem dL_law_831 : Dc cL_law 831 (.aload_n 2) 1 832 := ⟨by decide +kernel, rfl⟩
theorem dL_law_832 : Dc cL_law 832 (.invokevirtual 95) 3 835 := ⟨by decide +kernel, rfl⟩
theorem dL_law_835 : Dc cL_law 835 (.iload 5) 2 837 := ⟨by decide +kernel, rfl⟩
theorem dL_law_837 : Dj cL_law 837 (.if_icmp .eq 5) 3 840 (5) 842 := ⟨by decide +kernel, rfl, by decide⟩
theorem dL_law_840 : Dc cL_law 840 (.iconst 0) 1 841 := ⟨by decide +kernel, rfl⟩
theorem dL_law_841 : Dc cL_law 841 (.ireturn) 1 842 := ⟨by decide +kernel, rfl⟩
theorem dL_law_842 : Dc cL_law 842 (.iload 5) 2 844 := ⟨by decide +kernel, rfl⟩
theorem dL_law_844 : Dj cL_law 844 (.ifCond .ne 15) 3 847 (15) 859 := ⟨by decide +kernel, rfl, by decide⟩
theorem dL_law_847 : Dc cL_law 847 (.aload_n 3) 1 848 := ⟨by decide +kernel, rfl⟩
theorem dL_law_848 : Dc cL_law 848 (.iconst 0) 1 849 := ⟨by decide +kernel, rfl⟩
theorem dL_law_849 : Dc cL_law 849 (.laload) 1 850 := ⟨by decide +kernel, rfl⟩
theorem dL_law_850 : Dc cL_law 850 (.iload 6) 2 852 := ⟨by decide +kernel, rfl⟩
theorem dL_law_852 : Dc cL_law 852 (.i2l) 1 853 := ⟨by decide +kernel, rfl⟩
theorem dL_law_853 : Dc cL_law 853 (.lcmp) 1 854 := ⟨by decide +kernel, rfl⟩
theorem dL_law_854 : Dj cL_law 854 (.ifCond .eq 5) 3 857 (5) 859 := ⟨by decide +kernel, rfl, by decide⟩
theorem dL_law_857 : Dc cL_law 857 (.iconst 0) 1 858 := ⟨by decide +kernel, rfl⟩
theorem dL_law_858 : Dc cL_law 858 (.ireturn) 1 859 := ⟨by decide +kernel, rfl⟩
theorem dL_law_859 : Dj cL_law 859 (.goto 783) 3 862 (783) 1642 := ⟨by decide +kernel, rfl, by decide⟩
theorem dL_law_862 : Dc cL_law 862 (.aload_n 1) 1 863 := ⟨by decide +kernel, rfl⟩
theorem dL_law_863 : Dc cL_law 863 (.aload_n 3) 1 864 := ⟨by decide +kernel, rfl⟩
theorem dL_law_864 : Dc cL_law 864 (.invokestatic 139) 3 867 := ⟨by decide +kernel, rfl⟩
theorem dL_law_867 : Dc cL_law 867 (.istore 5) 2 869 := ⟨by decide +kernel, rfl⟩
theorem dL_law_869 : Dc cL_law 869 (.aload_n 2) 1 870 := ⟨by decide +kernel, rfl⟩
theorem dL_law_870 : Dc cL_law 870 (.invokevirtual 141) 3 873 := ⟨by decide +kernel, rfl⟩
theorem dL_law_873 : Dc cL_law 873 (.istore 6) 2 875 := ⟨by decide +kernel, rfl⟩
theorem dL_law_875 : Dc cL_law 875 (.aload_n 2) 1 876 := ⟨by decide +kernel, rfl⟩
theorem dL_law_876 : Dc cL_law 876 (.invokevirtual 95) 3 879 := ⟨by decide +kernel, rfl⟩
theorem dL_law_879 : Dc cL_law 879 (.iload 5) 2 881 := ⟨by decide +kernel, rfl⟩
theorem dL_law_881 : Dj cL_law 881 (.if_icmp .eq 5) 3 884 (5) 886 := ⟨by decide +kernel, rfl, by decide⟩
theorem dL_law_884 : Dc cL_law 884 (.iconst 0) 1 885 := ⟨by decide +kernel, rfl⟩
theorem dL_law_885 : Dc cL_law 885 (.ireturn) 1 886 := ⟨by decide +kernel, rfl⟩
theorem dL_law_886 : Dc cL_law 886 (.iload 5) 2 888 := ⟨by decide +kernel, rfl⟩
theorem dL_law_888 : Dj cL_law 888 (.ifCond .ne 15) 3 891 (15) 903 := ⟨by decide +kernel, rfl, by decide⟩
theorem dL_law_891 : Dc cL_law 891 (.aload_n 3) 1 892 := ⟨by decide +kernel, rfl⟩
theorem dL_law_892 : Dc cL_law 892 (.iconst 0) 1 893 := ⟨by decide +kernel, rfl⟩
theorem dL_law_893 : Dc cL_law 893 (.laload) 1 894 := ⟨by decide +kernel, rfl⟩
theorem dL_law_894 : Dc cL_law 894 (.iload 6) 2 896 := ⟨by decide +kernel, rfl⟩
theorem dL_law_896 : Dc cL_law 896 (.i2l) 1 897 := ⟨by decide +kernel, rfl⟩
theorem dL_law_897 : Dc cL_law 897 (.lcmp) 1 898 := ⟨by decide +kernel, rfl⟩
theorem dL_law_898 : Dj cL_law 898 (.ifCond .eq 5) 3 901 (5) 903 := ⟨by decide +kernel, rfl, by decide⟩
theorem dL_law_901 : Dc cL_law 901 (.iconst 0) 1 902 := ⟨by decide +kernel, rfl⟩
theorem dL_law_902 : Dc cL_law 902 (.ireturn) 1 903 := ⟨by decide +kernel, rfl⟩
theorem dL_law_903 : Dj cL_law 903 (.goto 739) 3 906 (739) 1642 := ⟨by decide +kernel, rfl, by decide⟩
theorem dL_law_906 : Dc cL_law 906 (.aload_n 1) 1 907 := ⟨by decide +kernel, rfl⟩
theorem dL_law_907 : Dc cL_law 907 (.invokevirtual 142) 3 910 := ⟨by decide +kernel, rfl⟩
theorem dL_law_910 : Dc cL_law 910 (.aload_n 2) 1 911 := ⟨by decide +kernel, rfl⟩
theorem dL_law_911 : Dc cL_law 911 (.invokevirtual 145) 3 914 := ⟨by decide +kernel, rfl⟩
theorem dL_law_914 : Dj cL_law 914 (.if_icmp .eq 728) 3 917 (728) 1642 := ⟨by decide +kernel, rfl, by decide⟩
theorem dL_law_917 : Dc cL_law 917 (.iconst 0) 1 918 := ⟨by decide +kernel, rfl⟩
theorem dL_law_918 : Dc cL_law 918 (.ireturn) 1 919 := ⟨by decide +kernel, rfl⟩
theorem dL_law_919 : Dc cL_law 919 (.aload_n 1) 1 920 := ⟨by decide +kernel, rfl⟩
theorem dL_law_920 : Dc cL_law 920 (.aload_n 3) 1 921 := ⟨by decide +kernel, rfl⟩
theorem dL_law_921 : Dc cL_law 921 (.invokestatic 146) 3 924 := ⟨by decide +kernel, rfl⟩
theorem dL_law_924 : Dc cL_law 924 (.istore 5) 2 926 := ⟨by decide +kernel, rfl⟩
theorem dL_law_926 : Dc cL_law 926 (.aload_n 2) 1 927 := ⟨by decide +kernel, rfl⟩
theorem dL_law_927 : Dc cL_law 927 (.invokevirtual 148) 3 930 := ⟨by decide +kernel, rfl⟩
theorem dL_law_930 : Dc cL_law 930 (.istore 6) 2 932 := ⟨by decide +kernel, rfl⟩
theorem dL_law_932 : Dc cL_law 932 (.aload_n 2) 1 933 := ⟨by decide +kernel, rfl⟩
theorem dL_law_933 : Dc cL_law 933 (.invokevirtual 95) 3 936 := ⟨by decide +kernel, rfl⟩
theorem dL_law_936 : Dc cL_law 936 (.iload 5) 2 938 := ⟨by decide +kernel, rfl⟩
theorem dL_law_938 : Dj cL_law 938 (.if_icmp .eq 5) 3 941 (5) 943 := ⟨by decide +kernel, rfl, by decide⟩
theorem dL_law_941 : Dc cL_law 941 (.iconst 0) 1 942 := ⟨by decide +kernel, rfl⟩
theorem dL_law_942 : Dc cL_law 942 (.ireturn) 1 943 := ⟨by decide +kernel, rfl⟩
theorem dL_law_943 : Dc cL_law 943 (.iload 5) 2 945 := ⟨by decide +kernel, rfl⟩
theorem dL_law_945 : Dj cL_law 945 (.ifCond .ne 15) 3 948 (15) 960 := ⟨by decide +kernel, rfl, by decide⟩
theorem dL_law_948 : Dc cL_law 948 (.aload_n 3) 1 949 := ⟨by decide +kernel, rfl⟩
theorem dL_law_949 : Dc cL_law 949 (.iconst 0) 1 950 := ⟨by decide +kernel, rfl⟩
theorem dL_law_950 : Dc cL_law 950 (.laload) 1 951 := ⟨by decide +kernel, rfl⟩
theorem dL_law_951 : Dc cL_law 951 (.iload 6) 2 953 := ⟨by decide +kernel, rfl⟩
theorem dL_law_953 : Dc cL_law 953 (.i2l) 1 954 := ⟨by decide +kernel, rfl⟩
theorem dL_law_954 : Dc cL_law 954 (.lcmp) 1 955 := ⟨by decide +kernel, rfl⟩
theorem dL_law_955 : Dj cL_law 955 (.ifCond .eq 5) 3 958 (5) 960 := ⟨by decide +kernel, rfl, by decide⟩
theorem dL_law_958 : Dc cL_law 958 (.iconst 0) 1 959 := ⟨by decide +kernel, rfl⟩
theorem dL_law_959 : Dc cL_law 959 (.ireturn) 1 960 := ⟨by decide +kernel, rfl⟩
theorem dL_law_960 : Dj cL_law 960 (.goto 682) 3 963 (682) 1642 := ⟨by decide +kernel, rfl, by decide⟩
theorem dL_law_963 : Dc cL_law 963 (.aload_n 1) 1 964 := ⟨by decide +kernel, rfl⟩
theorem dL_law_964 : Dc cL_law 964 (.aload_n 0) 1 965 := ⟨by decide +kernel, rfl⟩
theorem dL_law_965 : Dc cL_law 965 (.iload 4) 2 967 := ⟨by decide +kernel, rfl⟩
theorem dL_law_967 : Dc cL_law 967 (.iconst 1) 1 968 := ⟨by decide +kernel, rfl⟩
theorem dL_law_968 : Dc cL_law 968 (.iadd) 1 969 := ⟨by decide +kernel, rfl⟩
theorem dL_law_969 : Dc cL_law 969 (.iaload) 1 970 := ⟨by decide +kernel, rfl⟩
theorem dL_law_970 : Dc cL_law 970 (.aload_n 0) 1 971 := ⟨by decide +kernel, rfl⟩
theorem dL_law_971 : Dc cL_law 971 (.iload 4) 2 973 := ⟨by decide +kernel, rfl⟩
theorem dL_law_973 : Dc cL_law 973 (.iconst 2) 1 974 := ⟨by decide +kernel, rfl⟩
theorem dL_law_974 : Dc cL_law 974 (.iadd) 1 975 := ⟨by decide +kernel, rfl⟩
theorem dL_law_975 : Dc cL_law 975 (.iaload) 1 976 := ⟨by decide +kernel, rfl⟩
theorem dL_law_976 : Dc cL_law 976 (.aload_n 3) 1 977 := ⟨by decide +kernel, rfl⟩
theorem dL_law_977 : Dc cL_law 977 (.invokestatic 149) 3 980 := ⟨by decide +kernel, rfl⟩
theorem dL_law_980 : Dc cL_law 980 (.istore 5) 2 982 := ⟨by decide +kernel, rfl⟩
theorem dL_law_982 : Dc cL_law 982 (.aload_n 2) 1 983 := ⟨by decide +kernel, rfl⟩
theorem dL_law_983 : Dc cL_law 983 (.aload_n 0) 1 984 := ⟨by decide +kernel, rfl⟩
theorem dL_law_984 : Dc cL_law 984 (.iload 4) 2 986 := ⟨by decide +kernel, rfl⟩
theorem dL_law_986 : Dc cL_law 986 (.iconst 1) 1 987 := ⟨by decide +kernel, rfl⟩
theorem dL_law_987 : Dc cL_law 987 (.iadd) 1 988 := ⟨by decide +kernel, rfl⟩
theorem dL_law_988 : Dc cL_law 988 (.iaload) 1 989 := ⟨by decide +kernel, rfl⟩
theorem dL_law_989 : Dc cL_law 989 (.aload_n 0) 1 990 := ⟨by decide +kernel, rfl⟩
theorem dL_law_990 : Dc cL_law 990 (.iload 4) 2 992 := ⟨by decide +kernel, rfl⟩
theorem dL_law_992 : Dc cL_law 992 (.iconst 2) 1 993 := ⟨by decide +kernel, rfl⟩
theorem dL_law_993 : Dc cL_law 993 (.iadd) 1 994 := ⟨by decide +kernel, rfl⟩
theorem dL_law_994 : Dc cL_law 994 (.iaload) 1 995 := ⟨by decide +kernel, rfl⟩
theorem dL_law_995 : Dc cL_law 995 (.invokevirtual 151) 3 998 := ⟨by decide +kernel, rfl⟩
theorem dL_law_998 : Dc cL_law 998 (.istore 6) 2 1000 := ⟨by decide +kernel, rfl⟩
theorem dL_law_1000 : Dc cL_law 1000 (.aload_n 2) 1 1001 := ⟨by decide +kernel, rfl⟩
theorem dL_law_1001 : Dc cL_law 1001 (.invokevirtual 95) 3 1004 := ⟨by decide +kernel, rfl⟩
theorem dL_law_1004 : Dc cL_law 1004 (.iload 5) 2 1006 := ⟨by decide +kernel, rfl⟩
theorem dL_law_1006 : Dj cL_law 1006 (.if_icmp .eq 5) 3 1009 (5) 1011 := ⟨by decide +kernel, rfl, by decide⟩
theorem dL_law_1009 : Dc cL_law 1009 (.iconst 0) 1 1010 := ⟨by decide +kernel, rfl⟩
theorem dL_law_1010 : Dc cL_law 1010 (.ireturn) 1 1011 := ⟨by decide +kernel, rfl⟩
theorem dL_law_1011 : Dc cL_law 1011 (.iload 5) 2 1013 := ⟨by decide +kernel, rfl⟩
theorem dL_law_1013 : Dj cL_law 1013 (.ifCond .ne 15) 3 1016 (15) 1028 := ⟨by decide +kernel, rfl, by decide⟩
theorem dL_law_1016 : Dc cL_law 1016 (.aload_n 3) 1 1017 := ⟨by decide +kernel, rfl⟩
theorem dL_law_1017 : Dc cL_law 1017 (.iconst 0) 1 1018 := ⟨by decide +kernel, rfl⟩
theorem dL_law_1018 : Dc cL_law 1018 (.laload) 1 1019 := ⟨by decide +kernel, rfl⟩
theorem dL_law_1019 : Dc cL_law 1019 (.iload 6) 2 1021 := ⟨by decide +kernel, rfl⟩
theorem dL_law_1021 : Dc cL_law 1021 (.i2l) 1 1022 := ⟨by decide +kernel, rfl⟩
theorem dL_law_1022 : Dc cL_law 1022 (.lcmp) 1 1023 := ⟨by decide +kernel, rfl⟩
theorem dL_law_1023 : Dj cL_law 1023 (.ifCond .eq 5) 3 1026 (5) 1028 := ⟨by decide +kernel, rfl, by decide⟩
theorem dL_law_1026 : Dc cL_law 1026 (.iconst 0) 1 1027 := ⟨by decide +kernel, rfl⟩
theorem dL_law_1027 : Dc cL_law 1027 (.ireturn) 1 1028 := ⟨by decide +kernel, rfl⟩
theorem dL_law_1028 : Dj cL_law 1028 (.goto 614) 3 1031 (614) 1642 := ⟨by decide +kernel, rfl, by decide⟩
theorem dL_law_1031 : Dc cL_law 1031 (.aload_n 1) 1 1032 := ⟨by decide +kernel, rfl⟩
theorem dL_law_1032 : Dc cL_law 1032 (.aload_n 0) 1 1033 := ⟨by decide +kernel, rfl⟩
theorem dL_law_1033 : Dc cL_law 1033 (.iload 4) 2 1035 := ⟨by decide +kernel, rfl⟩
theorem dL_law_1035 : Dc cL_law 1035 (.iconst 1) 1 1036 := ⟨by decide +kernel, rfl⟩
theorem dL_law_1036 : Dc cL_law 1036 (.iadd) 1 1037 := ⟨by decide +kernel, rfl⟩
theorem dL_law_1037 : Dc cL_law 1037 (.iaload) 1 1038 := ⟨by decide +kernel, rfl⟩
theorem dL_law_1038 : Dc cL_law 1038 (.aload_n 0) 1 1039 := ⟨by decide +kernel, rfl⟩
theorem dL_law_1039 : Dc cL_law 1039 (.iload 4) 2 1041 := ⟨by decide +kernel, rfl⟩
theorem dL_law_1041 : Dc cL_law 1041 (.iconst 2) 1 1042 := ⟨by decide +kernel, rfl⟩
theorem dL_law_1042 : Dc cL_law 1042 (.iadd) 1 1043 := ⟨by decide +kernel, rfl⟩
theorem dL_law_1043 : Dc cL_law 1043 (.iaload) 1 1044 := ⟨by decide +kernel, rfl⟩
theorem dL_law_1044 : Dc cL_law 1044 (.aload_n 0) 1 1045 := ⟨by decide +kernel, rfl⟩
theorem dL_law_1045 : Dc cL_law 1045 (.iload 4) 2 1047 := ⟨by decide +kernel, rfl⟩
theorem dL_law_1047 : Dc cL_law 1047 (.iconst 3) 1 1048 := ⟨by decide +kernel, rfl⟩
theorem dL_law_1048 : Dc cL_law 1048 (.iadd) 1 1049 := ⟨by decide +kernel, rfl⟩
theorem dL_law_1049 : Dc cL_law 1049 (.iaload) 1 1050 := ⟨by decide +kernel, rfl⟩
theorem dL_law_1050 : Dc cL_law 1050 (.aload_n 3) 1 1051 := ⟨by decide +kernel, rfl⟩
theorem dL_law_1051 : Dc cL_law 1051 (.invokestatic 152) 3 1054 := ⟨by decide +kernel, rfl⟩
theorem dL_law_1054 : Dc cL_law 1054 (.istore 5) 2 1056 := ⟨by decide +kernel, rfl⟩
theorem dL_law_1056 : Dc cL_law 1056 (.aload_n 2) 1 1057 := ⟨by decide +kernel, rfl⟩
theorem dL_law_1057 : Dc cL_law 1057 (.aload_n 0) 1 1058 := ⟨by decide +kernel, rfl⟩
theorem dL_law_1058 : Dc cL_law 1058 (.iload 4) 2 1060 := ⟨by decide +kernel, rfl⟩
theorem dL_law_1060 : Dc cL_law 1060 (.iconst 1) 1 1061 := ⟨by decide +kernel, rfl⟩
theorem dL_law_1061 : Dc cL_law 1061 (.iadd) 1 1062 := ⟨by decide +kernel, rfl⟩
theorem dL_law_1062 : Dc cL_law 1062 (.iaload) 1 1063 := ⟨by decide +kernel, rfl⟩
theorem dL_law_1063 : Dc cL_law 1063 (.aload_n 0) 1 1064 := ⟨by decide +kernel, rfl⟩
theorem dL_law_1064 : Dc cL_law 1064 (.iload 4) 2 1066 := ⟨by decide +kernel, rfl⟩
theorem dL_law_1066 : Dc cL_law 1066 (.iconst 2) 1 1067 := ⟨by decide +kernel, rfl⟩
theorem dL_law_1067 : Dc cL_law 1067 (.iadd) 1 1068 := ⟨by decide +kernel, rfl⟩
theorem dL_law_1068 : Dc cL_law 1068 (.iaload) 1 1069 := ⟨by decide +kernel, rfl⟩
theorem dL_law_1069 : Dc cL_law 1069 (.aload_n 0) 1 1070 := ⟨by decide +kernel, rfl⟩
theorem dL_law_1070 : Dc cL_law 1070 (.iload 4) 2 1072 := ⟨by decide +kernel, rfl⟩
theorem dL_law_1072 : Dc cL_law 1072 (.iconst 3) 1 1073 := ⟨by decide +kernel, rfl⟩
theorem dL_law_1073 : Dc cL_law 1073 (.iadd) 1 1074 := ⟨by decide +kernel, rfl⟩
theorem dL_law_1074 : Dc cL_law 1074 (.iaload) 1 1075 := ⟨by decide +kernel, rfl⟩
theorem dL_law_1075 : Dc cL_law 1075 (.invokevirtual 154) 3 1078 := ⟨by decide +kernel, rfl⟩
theorem dL_law_1078 : Dc cL_law 1078 (.istore 6) 2 1080 := ⟨by decide +kernel, rfl⟩
theorem dL_law_1080 : Dc cL_law 1080 (.aload_n 2) 1 1081 := ⟨by decide +kernel, rfl⟩
theorem dL_law_1081 : Dc cL_law 1081 (.invokevirtual 95) 3 1084 := ⟨by decide +kernel, rfl⟩
theorem dL_law_1084 : Dc cL_law 1084 (.iload 5) 2 1086 := ⟨by decide +kernel, rfl⟩
theorem dL_law_1086 : Dj cL_law 1086 (.if_icmp .eq 5) 3 1089 (5) 1091 := ⟨by decide +kernel, rfl, by decide⟩
theorem dL_law_1089 : Dc cL_law 1089 (.iconst 0) 1 1090 := ⟨by decide +kernel, rfl⟩
theorem dL_law_1090 : Dc cL_law 1090 (.ireturn) 1 1091 := ⟨by decide +kernel, rfl⟩
theorem dL_law_1091 : Dc cL_law 1091 (.iload 5) 2 1093 := ⟨by decide +kernel, rfl⟩
theorem dL_law_1093 : Dj cL_law 1093 (.ifCond .ne 15) 3 1096 (15) 1108 := ⟨by decide +kernel, rfl, by decide⟩
theorem dL_law_1096 : Dc cL_law 1096 (.aload_n 3) 1 1097 := ⟨by decide +kernel, rfl⟩
theorem dL_law_1097 : Dc cL_law 1097 (.iconst 0) 1 1098 := ⟨by decide +kernel, rfl⟩
theorem dL_law_1098 : Dc cL_law 1098 (.laload) 1 1099 := ⟨by decide +kernel, rfl⟩
theorem dL_law_1099 : Dc cL_law 1099 (.iload 6) 2 1101 := ⟨by decide +kernel, rfl⟩
theorem dL_law_1101 : Dc cL_law 1101 (.i2l) 1 1102 := ⟨by decide +kernel, rfl⟩
theorem dL_law_1102 : Dc cL_law 1102 (.lcmp) 1 1103 := ⟨by decide +kernel, rfl⟩
theorem dL_law_1103 : Dj cL_law 1103 (.ifCond .eq 5) 3 1106 (5) 1108 := ⟨by decide +kernel, rfl, by decide⟩
theorem dL_law_1106 : Dc cL_law 1106 (.iconst 0) 1 1107 := ⟨by decide +kernel, rfl⟩
theorem dL_law_1107 : Dc cL_law 1107 (.ireturn) 1 1108 := ⟨by decide +kernel, rfl⟩
theorem dL_law_1108 : Dj cL_law 1108 (.goto 534) 3 1111 (534) 1642 := ⟨by decide +kernel, rfl, by decide⟩
theorem dL_law_1111 : Dc cL_law 1111 (.aload_n 1) 1 1112 := ⟨by decide +kernel, rfl⟩
theorem dL_law_1112 : Dc cL_law 1112 (.aload_n 0) 1 1113 := ⟨by decide +kernel, rfl⟩
theorem dL_law_1113 : Dc cL_law 1113 (.iload 4) 2 1115 := ⟨by decide +kernel, rfl⟩
theorem dL_law_1115 : Dc cL_law 1115 (.iconst 1) 1 1116 := ⟨by decide +kernel, rfl⟩
theorem dL_law_1116 : Dc cL_law 1116 (.iadd) 1 1117 := ⟨by decide +kernel, rfl⟩
theorem dL_law_1117 : Dc cL_law 1117 (.iaload) 1 1118 := ⟨by decide +kernel, rfl⟩
theorem dL_law_1118 : Dc cL_law 1118 (.aload_n 0) 1 1119 := ⟨by decide +kernel, rfl⟩
theorem dL_law_1119 : Dc cL_law 1119 (.iload 4) 2 1121 := ⟨by decide +kernel, rfl⟩
theorem dL_law_1121 : Dc cL_law 1121 (.iconst 2) 1 1122 := ⟨by decide +kernel, rfl⟩
theorem dL_law_1122 : Dc cL_law 1122 (.iadd) 1 1123 := ⟨by decide +kernel, rfl⟩
theorem dL_law_1123 : Dc cL_law 1123 (.iaload) 1 1124 := ⟨by decide +kernel, rfl⟩
theorem dL_law_1124 : Dc cL_law 1124 (.aload_n 3) 1 1125 := ⟨by decide +kernel, rfl⟩
theorem dL_law_1125 : Dc cL_law 1125 (.invokestatic 155) 3 1128 := ⟨by decide +kernel, rfl⟩
theorem dL_law_1128 : Dc cL_law 1128 (.istore 5) 2 1130 := ⟨by decide +kernel, rfl⟩
theorem dL_law_1130 : Dc cL_law 1130 (.aload_n 2) 1 1131 := ⟨by decide +kernel, rfl⟩
theorem dL_law_1131 : Dc cL_law 1131 (.aload_n 0) 1 1132 := ⟨by decide +kernel, rfl⟩
theorem dL_law_1132 : Dc cL_law 1132 (.iload 4) 2 1134 := ⟨by decide +kernel, rfl⟩
theorem dL_law_1134 : Dc cL_law 1134 (.iconst 1) 1 1135 := ⟨by decide +kernel, rfl⟩
theorem dL_law_1135 : Dc cL_law 1135 (.iadd) 1 1136 := ⟨by decide +kernel, rfl⟩
theorem dL_law_1136 : Dc cL_law 1136 (.iaload) 1 1137 := ⟨by decide +kernel, rfl⟩
theorem dL_law_1137 : Dc cL_law 1137 (.aload_n 0) 1 1138 := ⟨by decide +kernel, rfl⟩
theorem dL_law_1138 : Dc cL_law 1138 (.iload 4) 2 1140 := ⟨by decide +kernel, rfl⟩
theorem dL_law_1140 : Dc cL_law 1140 (.iconst 2) 1 1141 := ⟨by decide +kernel, rfl⟩
theorem dL_law_1141 : Dc cL_law 1141 (.iadd) 1 1142 := ⟨by decide +kernel, rfl⟩
theorem dL_law_1142 : Dc cL_law 1142 (.iaload) 1 1143 := ⟨by decide +kernel, rfl⟩
theorem dL_law_1143 : Dc cL_law 1143 (.invokevirtual 157) 3 1146 := ⟨by decide +kernel, rfl⟩
theorem dL_law_1146 : Dc cL_law 1146 (.istore 6) 2 1148 := ⟨by decide +kernel, rfl⟩
theorem dL_law_1148 : Dc cL_law 1148 (.aload_n 2) 1 1149 := ⟨by decide +kernel, rfl⟩
theorem dL_law_1149 : Dc cL_law 1149 (.invokevirtual 95) 3 1152 := ⟨by decide +kernel, rfl⟩
theorem dL_law_1152 : Dc cL_law 1152 (.iload 5) 2 1154 := ⟨by decide +kernel, rfl⟩
theorem dL_law_1154 : Dj cL_law 1154 (.if_icmp .eq 5) 3 1157 (5) 1159 := ⟨by decide +kernel, rfl, by decide⟩
theorem dL_law_1157 : Dc cL_law 1157 (.iconst 0) 1 1158 := ⟨by decide +kernel, rfl⟩
theorem dL_law_1158 : Dc cL_law 1158 (.ireturn) 1 1159 := ⟨by decide +kernel, rfl⟩
theorem dL_law_1159 : Dc cL_law 1159 (.iload 5) 2 1161 := ⟨by decide +kernel, rfl⟩
theorem dL_law_1161 : Dj cL_law 1161 (.ifCond .ne 15) 3 1164 (15) 1176 := ⟨by decide +kernel, rfl, by decide⟩
theorem dL_law_1164 : Dc cL_law 1164 (.aload_n 3) 1 1165 := ⟨by decide +kernel, rfl⟩
theorem dL_law_1165 : Dc cL_law 1165 (.iconst 0) 1 1166 := ⟨by decide +kernel, rfl⟩
theorem dL_law_1166 : Dc cL_law 1166 (.laload) 1 1167 := ⟨by decide +kernel, rfl⟩
theorem dL_law_1167 : Dc cL_law 1167 (.iload 6) 2 1169 := ⟨by decide +kernel, rfl⟩
theorem dL_law_1169 : Dc cL_law 1169 (.i2l) 1 1170 := ⟨by decide +kernel, rfl⟩
theorem dL_law_1170 : Dc cL_law 1170 (.lcmp) 1 1171 := ⟨by decide +kernel, rfl⟩
theorem dL_law_1171 : Dj cL_law 1171 (.ifCond .eq 5) 3 1174 (5) 1176 := ⟨by decide +kernel, rfl, by decide⟩
theorem dL_law_1174 : Dc cL_law 1174 (.iconst 0) 1 1175 := ⟨by decide +kernel, rfl⟩
theorem dL_law_1175 : Dc cL_law 1175 (.ireturn) 1 1176 := ⟨by decide +kernel, rfl⟩
theorem dL_law_1176 : Dj cL_law 1176 (.goto 466) 3 1179 (466) 1642 := ⟨by decide +kernel, rfl, by decide⟩
theorem dL_law_1179 : Dc cL_law 1179 (.aload_n 1) 1 1180 := ⟨by decide +kernel, rfl⟩
theorem dL_law_1180 : Dc cL_law 1180 (.aload_n 0) 1 1181 := ⟨by decide +kernel, rfl⟩
theorem dL_law_1181 : Dc cL_law 1181 (.iload 4) 2 1183 := ⟨by decide +kernel, rfl⟩
theorem dL_law_1183 : Dc cL_law 1183 (.iconst 1) 1 1184 := ⟨by decide +kernel, rfl⟩
theorem dL_law_1184 : Dc cL_law 1184 (.iadd) 1 1185 := ⟨by decide +kernel, rfl⟩
theorem dL_law_1185 : Dc cL_law 1185 (.iaload) 1 1186 := ⟨by decide +kernel, rfl⟩
theorem dL_law_1186 : Dc cL_law 1186 (.aload_n 0) 1 1187 := ⟨by decide +kernel, rfl⟩
theorem dL_law_1187 : Dc cL_law 1187 (.iload 4) 2 1189 := ⟨by decide +kernel, rfl⟩
theorem dL_law_1189 : Dc cL_law 1189 (.iconst 2) 1 1190 := ⟨by decide +kernel, rfl⟩
theorem dL_law_1190 : Dc cL_law 1190 (.iadd) 1 1191 := ⟨by decide +kernel, rfl⟩
theorem dL_law_1191 : Dc cL_law 1191 (.iaload) 1 1192 := ⟨by decide +kernel, rfl⟩
theorem dL_law_1192 : Dc cL_law 1192 (.aload_n 0) 1 1193 := ⟨by decide +kernel, rfl⟩
theorem dL_law_1193 : Dc cL_law 1193 (.iload 4) 2 1195 := ⟨by decide +kernel, rfl⟩
theorem dL_law_1195 : Dc cL_law 1195 (.iconst 3) 1 1196 := ⟨by decide +kernel, rfl⟩
theorem dL_law_1196 : Dc cL_law 1196 (.iadd) 1 1197 := ⟨by decide +kernel, rfl⟩
theorem dL_law_1197 : Dc cL_law 1197 (.iaload) 1 1198 := ⟨by decide +kernel, rfl⟩
theorem dL_law_1198 : Dc cL_law 1198 (.aload_n 3) 1 1199 := ⟨by decide +kernel, rfl⟩
theorem dL_law_1199 : Dc cL_law 1199 (.invokestatic 158) 3 1202 := ⟨by decide +kernel, rfl⟩
theorem dL_law_1202 : Dc cL_law 1202 (.istore 5) 2 1204 := ⟨by decide +kernel, rfl⟩
theorem dL_law_1204 : Dc cL_law 1204 (.aload_n 2) 1 1205 := ⟨by decide +kernel, rfl⟩
theorem dL_law_1205 : Dc cL_law 1205 (.aload_n 0) 1 1206 := ⟨by decide +kernel, rfl⟩
theorem dL_law_1206 : Dc cL_law 1206 (.iload 4) 2 1208 := ⟨by decide +kernel, rfl⟩
theorem dL_law_1208 : Dc cL_law 1208 (.iconst 1) 1 1209 := ⟨by decide +kernel, rfl⟩
theorem dL_law_1209 : Dc cL_law 1209 (.iadd) 1 1210 := ⟨by decide +kernel, rfl⟩
theorem dL_law_1210 : Dc cL_law 1210 (.iaload) 1 1211 := ⟨by decide +kernel, rfl⟩
theorem dL_law_1211 : Dc cL_law 1211 (.aload_n 0) 1 1212 := ⟨by decide +kernel, rfl⟩
theorem dL_law_1212 : Dc cL_law 1212 (.iload 4) 2 1214 := ⟨by decide +kernel, rfl⟩
theorem dL_law_1214 : Dc cL_law 1214 (.iconst 2) 1 1215 := ⟨by decide +kernel, rfl⟩
theorem dL_law_1215 : Dc cL_law 1215 (.iadd) 1 1216 := ⟨by decide +kernel, rfl⟩
theorem dL_law_1216 : Dc cL_law 1216 (.iaload) 1 1217 := ⟨by decide +kernel, rfl⟩
theorem dL_law_1217 : Dc cL_law 1217 (.aload_n 0) 1 1218 := ⟨by decide +kernel, rfl⟩
theorem dL_law_1218 : Dc cL_law 1218 (.iload 4) 2 1220 := ⟨by decide +kernel, rfl⟩
theorem dL_law_1220 : Dc cL_law 1220 (.iconst 3) 1 1221 := ⟨by decide +kernel, rfl⟩
theorem dL_law_1221 : Dc cL_law 1221 (.iadd) 1 1222 := ⟨by decide +kernel, rfl⟩
theorem dL_law_1222 : Dc cL_law 1222 (.iaload) 1 1223 := ⟨by decide +kernel, rfl⟩
theorem dL_law_1223 : Dc cL_law 1223 (.invokevirtual 160) 3 1226 := ⟨by decide +kernel, rfl⟩
theorem dL_law_1226 : Dc cL_law 1226 (.istore 6) 2 1228 := ⟨by decide +kernel, rfl⟩
theorem dL_law_1228 : Dc cL_law 1228 (.aload_n 2) 1 1229 := ⟨by decide +kernel, rfl⟩
theorem dL_law_1229 : Dc cL_law 1229 (.invokevirtual 95) 3 1232 := ⟨by decide +kernel, rfl⟩
theorem dL_law_1232 : Dc cL_law 1232 (.iload 5) 2 1234 := ⟨by decide +kernel, rfl⟩
theorem dL_law_1234 : Dj cL_law 1234 (.if_icmp .eq 5) 3 1237 (5) 1239 := ⟨by decide +kernel, rfl, by decide⟩
theorem dL_law_1237 : Dc cL_law 1237 (.iconst 0) 1 1238 := ⟨by decide +kernel, rfl⟩
theorem dL_law_1238 : Dc cL_law 1238 (.ireturn) 1 1239 := ⟨by decide +kernel, rfl⟩
theorem dL_law_1239 : Dc cL_law 1239 (.iload 5) 2 1241 := ⟨by decide +kernel, rfl⟩
theorem dL_law_1241 : Dj cL_law 1241 (.ifCond .ne 15) 3 1244 (15) 1256 := ⟨by decide +kernel, rfl, by decide⟩
theorem dL_law_1244 : Dc cL_law 1244 (.aload_n 3) 1 1245 := ⟨by decide +kernel, rfl⟩
theorem dL_law_1245 : Dc cL_law 1245 (.iconst 0) 1 1246 := ⟨by decide +kernel, rfl⟩
theorem dL_law_1246 : Dc cL_law 1246 (.laload) 1 1247 := ⟨by decide +kernel, rfl⟩
theorem dL_law_1247 : Dc cL_law 1247 (.iload 6) 2 1249 := ⟨by decide +kernel, rfl⟩
theorem dL_law_1249 : Dc cL_law 1249 (.i2l) 1 1250 := ⟨by decide +kernel, rfl⟩
theorem dL_law_1250 : Dc cL_law 1250 (.lcmp) 1 1251 := ⟨by decide +kernel, rfl⟩
theorem dL_law_1251 : Dj cL_law 1251 (.ifCond .eq 5) 3 1254 (5) 1256 := ⟨by decide +kernel, rfl, by decide⟩
theorem dL_law_1254 : Dc cL_law 1254 (.iconst 0) 1 1255 := ⟨by decide +kernel, rfl⟩
theorem dL_law_1255 : Dc cL_law 1255 (.ireturn) 1 1256 := ⟨by decide +kernel, rfl⟩
theorem dL_law_1256 : Dj cL_law 1256 (.goto 386) 3 1259 (386) 1642 := ⟨by decide +kernel, rfl, by decide⟩
theorem dL_law_1259 : Dc cL_law 1259 (.aload_n 1) 1 1260 := ⟨by decide +kernel, rfl⟩
theorem dL_law_1260 : Dc cL_law 1260 (.aload_n 0) 1 1261 := ⟨by decide +kernel, rfl⟩
theorem dL_law_1261 : Dc cL_law 1261 (.iload 4) 2 1263 := ⟨by decide +kernel, rfl⟩
theorem dL_law_1263 : Dc cL_law 1263 (.iconst 1) 1 1264 := ⟨by decide +kernel, rfl⟩
theorem dL_law_1264 : Dc cL_law 1264 (.iadd) 1 1265 := ⟨by decide +kernel, rfl⟩
theorem dL_law_1265 : Dc cL_law 1265 (.iaload) 1 1266 := ⟨by decide +kernel, rfl⟩
theorem dL_law_1266 : Dc cL_law 1266 (.aload_n 3) 1 1267 := ⟨by decide +kernel, rfl⟩
theorem dL_law_1267 : Dc cL_law 1267 (.invokestatic 161) 3 1270 := ⟨by decide +kernel, rfl⟩
theorem dL_law_1270 : Dc cL_law 1270 (.istore 5) 2 1272 := ⟨by decide +kernel, rfl⟩
theorem dL_law_1272 : Dc cL_law 1272 (.aload_n 2) 1 1273 := ⟨by decide +kernel, rfl⟩
theorem dL_law_1273 : Dc cL_law 1273 (.aload_n 0) 1 1274 := ⟨by decide +kernel, rfl⟩
theorem dL_law_1274 : Dc cL_law 1274 (.iload 4) 2 1276 := ⟨by decide +kernel, rfl⟩
theorem dL_law_1276 : Dc cL_law 1276 (.iconst 1) 1 1277 := ⟨by decide +kernel, rfl⟩
theorem dL_law_1277 : Dc cL_law 1277 (.iadd) 1 1278 := ⟨by decide +kernel, rfl⟩
theorem dL_law_1278 : Dc cL_law 1278 (.iaload) 1 1279 := ⟨by decide +kernel, rfl⟩
theorem dL_law_1279 : Dc cL_law 1279 (.invokevirtual 163) 3 1282 := ⟨by decide +kernel, rfl⟩
theorem dL_law_1282 : Dc cL_law 1282 (.istore 6) 2 1284 := ⟨by decide +kernel, rfl⟩
theorem dL_law_1284 : Dc cL_law 1284 (.aload_n 2) 1 1285 := ⟨by decide +kernel, rfl⟩
theorem dL_law_1285 : Dc cL_law 1285 (.invokevirtual 95) 3 1288 := ⟨by decide +kernel, rfl⟩
theorem dL_law_1288 : Dc cL_law 1288 (.iload 5) 2 1290 := ⟨by decide +kernel, rfl⟩
theorem dL_law_1290 : Dj cL_law 1290 (.if_icmp .eq 5) 3 1293 (5) 1295 := ⟨by decide +kernel, rfl, by decide⟩
theorem dL_law_1293 : Dc cL_law 1293 (.iconst 0) 1 1294 := ⟨by decide +kernel, rfl⟩
theorem dL_law_1294 : Dc cL_law 1294 (.ireturn) 1 1295 := ⟨by decide +kernel, rfl⟩
theorem dL_law_1295 : Dc cL_law 1295 (.iload 5) 2 1297 := ⟨by decide +kernel, rfl⟩
theorem dL_law_1297 : Dj cL_law 1297 (.ifCond .ne 15) 3 1300 (15) 1312 := ⟨by decide +kernel, rfl, by decide⟩
theorem dL_law_1300 : Dc cL_law 1300 (.aload_n 3) 1 1301 := ⟨by decide +kernel, rfl⟩
theorem dL_law_1301 : Dc cL_law 1301 (.iconst 0) 1 1302 := ⟨by decide +kernel, rfl⟩
theorem dL_law_1302 : Dc cL_law 1302 (.laload) 1 1303 := ⟨by decide +kernel, rfl⟩
theorem dL_law_1303 : Dc cL_law 1303 (.iload 6) 2 1305 := ⟨by decide +kernel, rfl⟩
theorem dL_law_1305 : Dc cL_law 1305 (.i2l) 1 1306 := ⟨by decide +kernel, rfl⟩
theorem dL_law_1306 : Dc cL_law 1306 (.lcmp) 1 1307 := ⟨by decide +kernel, rfl⟩
theorem dL_law_1307 : Dj cL_law 1307 (.ifCond .eq 5) 3 1310 (5) 1312 := ⟨by decide +kernel, rfl, by decide⟩
theorem dL_law_1310 : Dc cL_law 1310 (.iconst 0) 1 1311 := ⟨by decide +kernel, rfl⟩
theorem dL_law_1311 : Dc cL_law 1311 (.ireturn) 1 1312 := ⟨by decide +kernel, rfl⟩
theorem dL_law_1312 : Dj cL_law 1312 (.goto 330) 3 1315 (330) 1642 := ⟨by decide +kernel, rfl, by decide⟩
theorem dL_law_1315 : Dc cL_law 1315 (.aload_n 1) 1 1316 := ⟨by decide +kernel, rfl⟩
theorem dL_law_1316 : Dc cL_law 1316 (.aload_n 0) 1 1317 := ⟨by decide +kernel, rfl⟩
theorem dL_law_1317 : Dc cL_law 1317 (.iload 4) 2 1319 := ⟨by decide +kernel, rfl⟩
theorem dL_law_1319 : Dc cL_law 1319 (.iconst 1) 1 1320 := ⟨by decide +kernel, rfl⟩
theorem dL_law_1320 : Dc cL_law 1320 (.iadd) 1 1321 := ⟨by decide +kernel, rfl⟩
theorem dL_law_1321 : Dc cL_law 1321 (.iaload) 1 1322 := ⟨by decide +kernel, rfl⟩
theorem dL_law_1322 : Dc cL_law 1322 (.aload_n 0) 1 1323 := ⟨by decide +kernel, rfl⟩
theorem dL_law_1323 : Dc cL_law 1323 (.iload 4) 2 1325 := ⟨by decide +kernel, rfl⟩
theorem dL_law_1325 : Dc cL_law 1325 (.iconst 2) 1 1326 := ⟨by decide +kernel, rfl⟩
theorem dL_law_1326 : Dc cL_law 1326 (.iadd) 1 1327 := ⟨by decide +kernel, rfl⟩
theorem dL_law_1327 : Dc cL_law 1327 (.iaload) 1 1328 := ⟨by decide +kernel, rfl⟩
theorem dL_law_1328 : Dc cL_law 1328 (.aload_n 3) 1 1329 := ⟨by decide +kernel, rfl⟩
theorem dL_law_1329 : Dc cL_law 1329 (.invokestatic 164) 3 1332 := ⟨by decide +kernel, rfl⟩
theorem dL_law_1332 : Dc cL_law 1332 (.istore 5) 2 1334 := ⟨by decide +kernel, rfl⟩
theorem dL_law_1334 : Dc cL_law 1334 (.aload_n 2) 1 1335 := ⟨by decide +kernel, rfl⟩
theorem dL_law_1335 : Dc cL_law 1335 (.aload_n 0) 1 1336 := ⟨by decide +kernel, rfl⟩
theorem dL_law_1336 : Dc cL_law 1336 (.iload 4) 2 1338 := ⟨by decide +kernel, rfl⟩
theorem dL_law_1338 : Dc cL_law 1338 (.iconst 1) 1 1339 := ⟨by decide +kernel, rfl⟩
theorem dL_law_1339 : Dc cL_law 1339 (.iadd) 1 1340 := ⟨by decide +kernel, rfl⟩
theorem dL_law_1340 : Dc cL_law 1340 (.iaload) 1 1341 := ⟨by decide +kernel, rfl⟩
theorem dL_law_1341 : Dc cL_law 1341 (.aload_n 0) 1 1342 := ⟨by decide +kernel, rfl⟩
theorem dL_law_1342 : Dc cL_law 1342 (.iload 4) 2 1344 := ⟨by decide +kernel, rfl⟩
theorem dL_law_1344 : Dc cL_law 1344 (.iconst 2) 1 1345 := ⟨by decide +kernel, rfl⟩
theorem dL_law_1345 : Dc cL_law 1345 (.iadd) 1 1346 := ⟨by decide +kernel, rfl⟩
theorem dL_law_1346 : Dc cL_law 1346 (.iaload) 1 1347 := ⟨by decide +kernel, rfl⟩
theorem dL_law_1347 : Dc cL_law 1347 (.invokevirtual 166) 3 1350 := ⟨by decide +kernel, rfl⟩
theorem dL_law_1350 : Dc cL_law 1350 (.istore 6) 2 1352 := ⟨by decide +kernel, rfl⟩
theorem dL_law_1352 : Dc cL_law 1352 (.aload_n 2) 1 1353 := ⟨by decide +kernel, rfl⟩
theorem dL_law_1353 : Dc cL_law 1353 (.invokevirtual 95) 3 1356 := ⟨by decide +kernel, rfl⟩
theorem dL_law_1356 : Dc cL_law 1356 (.iload 5) 2 1358 := ⟨by decide +kernel, rfl⟩
theorem dL_law_1358 : Dj cL_law 1358 (.if_icmp .eq 5) 3 1361 (5) 1363 := ⟨by decide +kernel, rfl, by decide⟩
theorem dL_law_1361 : Dc cL_law 1361 (.iconst 0) 1 1362 := ⟨by decide +kernel, rfl⟩
theorem dL_law_1362 : Dc cL_law 1362 (.ireturn) 1 1363 := ⟨by decide +kernel, rfl⟩
theorem dL_law_1363 : Dc cL_law 1363 (.iload 5) 2 1365 := ⟨by decide +kernel, rfl⟩
theorem dL_law_1365 : Dj cL_law 1365 (.ifCond .ne 15) 3 1368 (15) 1380 := ⟨by decide +kernel, rfl, by decide⟩
theorem dL_law_1368 : Dc cL_law 1368 (.aload_n 3) 1 1369 := ⟨by decide +kernel, rfl⟩
theorem dL_law_1369 : Dc cL_law 1369 (.iconst 0) 1 1370 := ⟨by decide +kernel, rfl⟩
theorem dL_law_1370 : Dc cL_law 1370 (.laload) 1 1371 := ⟨by decide +kernel, rfl⟩
theorem dL_law_1371 : Dc cL_law 1371 (.iload 6) 2 1373 := ⟨by decide +kernel, rfl⟩
theorem dL_law_1373 : Dc cL_law 1373 (.i2l) 1 1374 := ⟨by decide +kernel, rfl⟩
theorem dL_law_1374 : Dc cL_law 1374 (.lcmp) 1 1375 := ⟨by decide +kernel, rfl⟩
theorem dL_law_1375 : Dj cL_law 1375 (.ifCond .eq 5) 3 1378 (5) 1380 := ⟨by decide +kernel, rfl, by decide⟩
theorem dL_law_1378 : Dc cL_law 1378 (.iconst 0) 1 1379 := ⟨by decide +kernel, rfl⟩
theorem dL_law_1379 : Dc cL_law 1379 (.ireturn) 1 1380 := ⟨by decide +kernel, rfl⟩
theorem dL_law_1380 : Dj cL_law 1380 (.goto 262) 3 1383 (262) 1642 := ⟨by decide +kernel, rfl, by decide⟩
theorem dL_law_1383 : Dc cL_law 1383 (.aload_n 1) 1 1384 := ⟨by decide +kernel, rfl⟩
theorem dL_law_1384 : Dc cL_law 1384 (.aload_n 0) 1 1385 := ⟨by decide +kernel, rfl⟩
theorem dL_law_1385 : Dc cL_law 1385 (.iload 4) 2 1387 := ⟨by decide +kernel, rfl⟩
theorem dL_law_1387 : Dc cL_law 1387 (.iconst 1) 1 1388 := ⟨by decide +kernel, rfl⟩
theorem dL_law_1388 : Dc cL_law 1388 (.iadd) 1 1389 := ⟨by decide +kernel, rfl⟩
theorem dL_law_1389 : Dc cL_law 1389 (.iaload) 1 1390 := ⟨by decide +kernel, rfl⟩
theorem dL_law_1390 : Dc cL_law 1390 (.aload_n 0) 1 1391 := ⟨by decide +kernel, rfl⟩
theorem dL_law_1391 : Dc cL_law 1391 (.iload 4) 2 1393 := ⟨by decide +kernel, rfl⟩
theorem dL_law_1393 : Dc cL_law 1393 (.iconst 2) 1 1394 := ⟨by decide +kernel, rfl⟩
theorem dL_law_1394 : Dc cL_law 1394 (.iadd) 1 1395 := ⟨by decide +kernel, rfl⟩
theorem dL_law_1395 : Dc cL_law 1395 (.iaload) 1 1396 := ⟨by decide +kernel, rfl⟩
theorem dL_law_1396 : Dc cL_law 1396 (.aload_n 0) 1 1397 := ⟨by decide +kernel, rfl⟩
theorem dL_law_1397 : Dc cL_law 1397 (.iload 4) 2 1399 := ⟨by decide +kernel, rfl⟩
theorem dL_law_1399 : Dc cL_law 1399 (.iconst 3) 1 1400 := ⟨by decide +kernel, rfl⟩
theorem dL_law_1400 : Dc cL_law 1400 (.iadd) 1 1401 := ⟨by decide +kernel, rfl⟩
theorem dL_law_1401 : Dc cL_law 1401 (.iaload) 1 1402 := ⟨by decide +kernel, rfl⟩
theorem dL_law_1402 : Dc cL_law 1402 (.aload_n 3) 1 1403 := ⟨by decide +kernel, rfl⟩
theorem dL_law_1403 : Dc cL_law 1403 (.invokestatic 167) 3 1406 := ⟨by decide +kernel, rfl⟩
theorem dL_law_1406 : Dc cL_law 1406 (.istore 5) 2 1408 := ⟨by decide +kernel, rfl⟩
theorem dL_law_1408 : Dc cL_law 1408 (.aload_n 2) 1 1409 := ⟨by decide +kernel, rfl⟩
theorem dL_law_1409 : Dc cL_law 1409 (.aload_n 0) 1 1410 := ⟨by decide +kernel, rfl⟩
theorem dL_law_1410 : Dc cL_law 1410 (.iload 4) 2 1412 := ⟨by decide +kernel, rfl⟩
theorem dL_law_1412 : Dc cL_law 1412 (.iconst 1) 1 1413 := ⟨by decide +kernel, rfl⟩
theorem dL_law_1413 : Dc cL_law 1413 (.iadd) 1 1414 := ⟨by decide +kernel, rfl⟩
theorem dL_law_1414 : Dc cL_law 1414 (.iaload) 1 1415 := ⟨by decide +kernel, rfl⟩
theorem dL_law_1415 : Dc cL_law 1415 (.aload_n 0) 1 1416 := ⟨by decide +kernel, rfl⟩
theorem dL_law_1416 : Dc cL_law 1416 (.iload 4) 2 1418 := ⟨by decide +kernel, rfl⟩
theorem dL_law_1418 : Dc cL_law 1418 (.iconst 2) 1 1419 := ⟨by decide +kernel, rfl⟩
theorem dL_law_1419 : Dc cL_law 1419 (.iadd) 1 1420 := ⟨by decide +kernel, rfl⟩
theorem dL_law_1420 : Dc cL_law 1420 (.iaload) 1 1421 := ⟨by decide +kernel, rfl⟩
theorem dL_law_1421 : Dc cL_law 1421 (.aload_n 0) 1 1422 := ⟨by decide +kernel, rfl⟩
theorem dL_law_1422 : Dc cL_law 1422 (.iload 4) 2 1424 := ⟨by decide +kernel, rfl⟩
theorem dL_law_1424 : Dc cL_law 1424 (.iconst 3) 1 1425 := ⟨by decide +kernel, rfl⟩
theorem dL_law_1425 : Dc cL_law 1425 (.iadd) 1 1426 := ⟨by decide +kernel, rfl⟩
theorem dL_law_1426 : Dc cL_law 1426 (.iaload) 1 1427 := ⟨by decide +kernel, rfl⟩
theorem dL_law_1427 : Dc cL_law 1427 (.invokevirtual 169) 3 1430 := ⟨by decide +kernel, rfl⟩
theorem dL_law_1430 : Dc cL_law 1430 (.istore 6) 2 1432 := ⟨by decide +kernel, rfl⟩
theorem dL_law_1432 : Dc cL_law 1432 (.aload_n 2) 1 1433 := ⟨by decide +kernel, rfl⟩
theorem dL_law_1433 : Dc cL_law 1433 (.invokevirtual 95) 3 1436 := ⟨by decide +kernel, rfl⟩
theorem dL_law_1436 : Dc cL_law 1436 (.iload 5) 2 1438 := ⟨by decide +kernel, rfl⟩
theorem dL_law_1438 : Dj cL_law 1438 (.if_icmp .eq 5) 3 1441 (5) 1443 := ⟨by decide +kernel, rfl, by decide⟩
theorem dL_law_1441 : Dc cL_law 1441 (.iconst 0) 1 1442 := ⟨by decide +kernel, rfl⟩
theorem dL_law_1442 : Dc cL_law 1442 (.ireturn) 1 1443 := ⟨by decide +kernel, rfl⟩
theorem dL_law_1443 : Dc cL_law 1443 (.iload 5) 2 1445 := ⟨by decide +kernel, rfl⟩
theorem dL_law_1445 : Dj cL_law 1445 (.ifCond .ne 15) 3 1448 (15) 1460 := ⟨by decide +kernel, rfl, by decide⟩
theorem dL_law_1448 : Dc cL_law 1448 (.aload_n 3) 1 1449 := ⟨by decide +kernel, rfl⟩
theorem dL_law_1449 : Dc cL_law 1449 (.iconst 0) 1 1450 := ⟨by decide +kernel, rfl⟩
theorem dL_law_1450 : Dc cL_law 1450 (.laload) 1 1451 := ⟨by decide +kernel, rfl⟩
theorem dL_law_1451 : Dc cL_law 1451 (.iload 6) 2 1453 := ⟨by decide +kernel, rfl⟩
theorem dL_law_1453 : Dc cL_law 1453 (.i2l) 1 1454 := ⟨by decide +kernel, rfl⟩
theorem dL_law_1454 : Dc cL_law 1454 (.lcmp) 1 1455 := ⟨by decide +kernel, rfl⟩
theorem dL_law_1455 : Dj cL_law 1455 (.ifCond .eq 5) 3 1458 (5) 1460 := ⟨by decide +kernel, rfl, by decide⟩
theorem dL_law_1458 : Dc cL_law 1458 (.iconst 0) 1 1459 := ⟨by decide +kernel, rfl⟩
theorem dL_law_1459 : Dc cL_law 1459 (.ireturn) 1 1460 := ⟨by decide +kernel, rfl⟩
theorem dL_law_1460 : Dj cL_law 1460 (.goto 182) 3 1463 (182) 1642 := ⟨by decide +kernel, rfl, by decide⟩
theorem dL_law_1463 : Dc cL_law 1463 (.aload_n 1) 1 1464 := ⟨by decide +kernel, rfl⟩
theorem dL_law_1464 : Dc cL_law 1464 (.aload_n 0) 1 1465 := ⟨by decide +kernel, rfl⟩
theorem dL_law_1465 : Dc cL_law 1465 (.iload 4) 2 1467 := ⟨by decide +kernel, rfl⟩
theorem dL_law_1467 : Dc cL_law 1467 (.iconst 1) 1 1468 := ⟨by decide +kernel, rfl⟩
theorem dL_law_1468 : Dc cL_law 1468 (.iadd) 1 1469 := ⟨by decide +kernel, rfl⟩
theorem dL_law_1469 : Dc cL_law 1469 (.iaload) 1 1470 := ⟨by decide +kernel, rfl⟩
theorem dL_law_1470 : Dc cL_law 1470 (.aload_n 0) 1 1471 := ⟨by decide +kernel, rfl⟩
theorem dL_law_1471 : Dc cL_law 1471 (.iload 4) 2 1473 := ⟨by decide +kernel, rfl⟩
theorem dL_law_1473 : Dc cL_law 1473 (.iconst 2) 1 1474 := ⟨by decide +kernel, rfl⟩
theorem dL_law_1474 : Dc cL_law 1474 (.iadd) 1 1475 := ⟨by decide +kernel, rfl⟩
theorem dL_law_1475 : Dc cL_law 1475 (.iaload) 1 1476 := ⟨by decide +kernel, rfl⟩
theorem dL_law_1476 : Dc cL_law 1476 (.aload_n 3) 1 1477 := ⟨by decide +kernel, rfl⟩
theorem dL_law_1477 : Dc cL_law 1477 (.invokestatic 170) 3 1480 := ⟨by decide +kernel, rfl⟩
theorem dL_law_1480 : Dc cL_law 1480 (.istore 5) 2 1482 := ⟨by decide +kernel, rfl⟩
theorem dL_law_1482 : Dc cL_law 1482 (.aload_n 2) 1 1483 := ⟨by decide +kernel, rfl⟩
theorem dL_law_1483 : Dc cL_law 1483 (.aload_n 0) 1 1484 := ⟨by decide +kernel, rfl⟩
theorem dL_law_1484 : Dc cL_law 1484 (.iload 4) 2 1486 := ⟨by decide +kernel, rfl⟩
theorem dL_law_1486 : Dc cL_law 1486 (.iconst 1) 1 1487 := ⟨by decide +kernel, rfl⟩
theorem dL_law_1487 : Dc cL_law 1487 (.iadd) 1 1488 := ⟨by decide +kernel, rfl⟩
theorem dL_law_1488 : Dc cL_law 1488 (.iaload) 1 1489 := ⟨by decide +kernel, rfl⟩
theorem dL_law_1489 : Dc cL_law 1489 (.aload_n 0) 1 1490 := ⟨by decide +kernel, rfl⟩
theorem dL_law_1490 : Dc cL_law 1490 (.iload 4) 2 1492 := ⟨by decide +kernel, rfl⟩
theorem dL_law_1492 : Dc cL_law 1492 (.iconst 2) 1 1493 := ⟨by decide +kernel, rfl⟩
theorem dL_law_1493 : Dc cL_law 1493 (.iadd) 1 1494 := ⟨by decide +kernel, rfl⟩
theorem dL_law_1494 : Dc cL_law 1494 (.iaload) 1 1495 := ⟨by decide +kernel, rfl⟩
theorem dL_law_1495 : Dc cL_law 1495 (.invokevirtual 172) 3 1498 := ⟨by decide +kernel, rfl⟩
theorem dL_law_1498 : Dc cL_law 1498 (.istore 6) 2 1500 := ⟨by decide +kernel, rfl⟩
theorem dL_law_1500 : Dc cL_law 1500 (.aload_n 2) 1 1501 := ⟨by decide +kernel, rfl⟩
theorem dL_law_1501 : Dc cL_law 1501 (.invokevirtual 95) 3 1504 := ⟨by decide +kernel, rfl⟩
theorem dL_law_1504 : Dc cL_law 1504 (.iload 5) 2 1506 := ⟨by decide +kernel, rfl⟩
theorem dL_law_1506 : Dj cL_law 1506 (.if_icmp .eq 5) 3 1509 (5) 1511 := ⟨by decide +kernel, rfl, by decide⟩
theorem dL_law_1509 : Dc cL_law 1509 (.iconst 0) 1 1510 := ⟨by decide +kernel, rfl⟩
theorem dL_law_1510 : Dc cL_law 1510 (.ireturn) 1 1511 := ⟨by decide +kernel, rfl⟩
theorem dL_law_1511 : Dc cL_law 1511 (.iload 5) 2 1513 := ⟨by decide +kernel, rfl⟩
theorem dL_law_1513 : Dj cL_law 1513 (.ifCond .ne 15) 3 1516 (15) 1528 := ⟨by decide +kernel, rfl, by decide⟩
theorem dL_law_1516 : Dc cL_law 1516 (.aload_n 3) 1 1517 := ⟨by decide +kernel, rfl⟩
theorem dL_law_1517 : Dc cL_law 1517 (.iconst 0) 1 1518 := ⟨by decide +kernel, rfl⟩
theorem dL_law_1518 : Dc cL_law 1518 (.laload) 1 1519 := ⟨by decide +kernel, rfl⟩
theorem dL_law_1519 : Dc cL_law 1519 (.iload 6) 2 1521 := ⟨by decide +kernel, rfl⟩
theorem dL_law_1521 : Dc cL_law 1521 (.i2l) 1 1522 := ⟨by decide +kernel, rfl⟩
theorem dL_law_1522 : Dc cL_law 1522 (.lcmp) 1 1523 := ⟨by decide +kernel, rfl⟩
theorem dL_law_1523 : Dj cL_law 1523 (.ifCond .eq 5) 3 1526 (5) 1528 := ⟨by decide +kernel, rfl, by decide⟩
theorem dL_law_1526 : Dc cL_law 1526 (.iconst 0) 1 1527 := ⟨by decide +kernel, rfl⟩
theorem dL_law_1527 : Dc cL_law 1527 (.ireturn) 1 1528 := ⟨by decide +kernel, rfl⟩
theorem dL_law_1528 : Dj cL_law 1528 (.goto 114) 3 1531 (114) 1642 := ⟨by decide +kernel, rfl, by decide⟩
theorem dL_law_1531 : Dc cL_law 1531 (.aload_n 1) 1 1532 := ⟨by decide +kernel, rfl⟩
theorem dL_law_1532 : Dc cL_law 1532 (.aload_n 0) 1 1533 := ⟨by decide +kernel, rfl⟩
theorem dL_law_1533 : Dc cL_law 1533 (.iload 4) 2 1535 := ⟨by decide +kernel, rfl⟩
theorem dL_law_1535 : Dc cL_law 1535 (.iconst 1) 1 1536 := ⟨by decide +kernel, rfl⟩
theorem dL_law_1536 : Dc cL_law 1536 (.iadd) 1 1537 := ⟨by decide +kernel, rfl⟩
theorem dL_law_1537 : Dc cL_law 1537 (.iaload) 1 1538 := ⟨by decide +kernel, rfl⟩
theorem dL_law_1538 : Dc cL_law 1538 (.aload_n 3) 1 1539 := ⟨by decide +kernel, rfl⟩
theorem dL_law_1539 : Dc cL_law 1539 (.invokestatic 173) 3 1542 := ⟨by decide +kernel, rfl⟩
theorem dL_law_1542 : Dc cL_law 1542 (.istore 5) 2 1544 := ⟨by decide +kernel, rfl⟩
theorem dL_law_1544 : Dc cL_law 1544 (.aload_n 2) 1 1545 := ⟨by decide +kernel, rfl⟩
theorem dL_law_1545 : Dc cL_law 1545 (.aload_n 0) 1 1546 := ⟨by decide +kernel, rfl⟩
theorem dL_law_1546 : Dc cL_law 1546 (.iload 4) 2 1548 := ⟨by decide +kernel, rfl⟩
theorem dL_law_1548 : Dc cL_law 1548 (.iconst 1) 1 1549 := ⟨by decide +kernel, rfl⟩
theorem dL_law_1549 : Dc cL_law 1549 (.iadd) 1 1550 := ⟨by decide +kernel, rfl⟩
theorem dL_law_1550 : Dc cL_law 1550 (.iaload) 1 1551 := ⟨by decide +kernel, rfl⟩
theorem dL_law_1551 : Dc cL_law 1551 (.invokevirtual 175) 3 1554 := ⟨by decide +kernel, rfl⟩
theorem dL_law_1554 : Dc cL_law 1554 (.istore 6) 2 1556 := ⟨by decide +kernel, rfl⟩
theorem dL_law_1556 : Dc cL_law 1556 (.aload_n 2) 1 1557 := ⟨by decide +kernel, rfl⟩
theorem dL_law_1557 : Dc cL_law 1557 (.invokevirtual 95) 3 1560 := ⟨by decide +kernel, rfl⟩
theorem dL_law_1560 : Dc cL_law 1560 (.iload 5) 2 1562 := ⟨by decide +kernel, rfl⟩
theorem dL_law_1562 : Dj cL_law 1562 (.if_icmp .eq 5) 3 1565 (5) 1567 := ⟨by decide +kernel, rfl, by decide⟩
theorem dL_law_1565 : Dc cL_law 1565 (.iconst 0) 1 1566 := ⟨by decide +kernel, rfl⟩
theorem dL_law_1566 : Dc cL_law 1566 (.ireturn) 1 1567 := ⟨by decide +kernel, rfl⟩
theorem dL_law_1567 : Dc cL_law 1567 (.iload 5) 2 1569 := ⟨by decide +kernel, rfl⟩
theorem dL_law_1569 : Dj cL_law 1569 (.ifCond .ne 15) 3 1572 (15) 1584 := ⟨by decide +kernel, rfl, by decide⟩
theorem dL_law_1572 : Dc cL_law 1572 (.aload_n 3) 1 1573 := ⟨by decide +kernel, rfl⟩
theorem dL_law_1573 : Dc cL_law 1573 (.iconst 0) 1 1574 := ⟨by decide +kernel, rfl⟩
theorem dL_law_1574 : Dc cL_law 1574 (.laload) 1 1575 := ⟨by decide +kernel, rfl⟩
theorem dL_law_1575 : Dc cL_law 1575 (.iload 6) 2 1577 := ⟨by decide +kernel, rfl⟩
theorem dL_law_1577 : Dc cL_law 1577 (.i2l) 1 1578 := ⟨by decide +kernel, rfl⟩
theorem dL_law_1578 : Dc cL_law 1578 (.lcmp) 1 1579 := ⟨by decide +kernel, rfl⟩
theorem dL_law_1579 : Dj cL_law 1579 (.ifCond .eq 5) 3 1582 (5) 1584 := ⟨by decide +kernel, rfl, by decide⟩
theorem dL_law_1582 : Dc cL_law 1582 (.iconst 0) 1 1583 := ⟨by decide +kernel, rfl⟩
theorem dL_law_1583 : Dc cL_law 1583 (.ireturn) 1 1584 := ⟨by decide +kernel, rfl⟩
theorem dL_law_1584 : Dj cL_law 1584 (.goto 58) 3 1587 (58) 1642 := ⟨by decide +kernel, rfl, by decide⟩
theorem dL_law_1587 : Dc cL_law 1587 (.aload_n 1) 1 1588 := ⟨by decide +kernel, rfl⟩
theorem dL_law_1588 : Dc cL_law 1588 (.invokevirtual 176) 3 1591 := ⟨by decide +kernel, rfl⟩
theorem dL_law_1591 : Dc cL_law 1591 (.dstore 5) 2 1593 := ⟨by decide +kernel, rfl⟩
theorem dL_law_1593 : Dc cL_law 1593 (.aload_n 2) 1 1594 := ⟨by decide +kernel, rfl⟩
theorem dL_law_1594 : Dc cL_law 1594 (.invokevirtual 180) 3 1597 := ⟨by decide +kernel, rfl⟩
theorem dL_law_1597 : Dc cL_law 1597 (.dstore 7) 2 1599 := ⟨by decide +kernel, rfl⟩
theorem dL_law_1599 : Dc cL_law 1599 (.dload 5) 2 1601 := ⟨by decide +kernel, rfl⟩
theorem dL_law_1601 : Dc cL_law 1601 (.dload 7) 2 1603 := ⟨by decide +kernel, rfl⟩
theorem dL_law_1603 : Dc cL_law 1603 (.dcmp .l) 1 1604 := ⟨by decide +kernel, rfl⟩
theorem dL_law_1604 : Dj cL_law 1604 (.ifCond .eq 21) 3 1607 (21) 1625 := ⟨by decide +kernel, rfl, by decide⟩
theorem dL_law_1607 : Dc cL_law 1607 (.dload 5) 2 1609 := ⟨by decide +kernel, rfl⟩
theorem dL_law_1609 : Dc cL_law 1609 (.dload 5) 2 1611 := ⟨by decide +kernel, rfl⟩
theorem dL_law_1611 : Dc cL_law 1611 (.dcmp .l) 1 1612 := ⟨by decide +kernel, rfl⟩
theorem dL_law_1612 : Dj cL_law 1612 (.ifCond .eq 11) 3 1615 (11) 1623 := ⟨by decide +kernel, rfl, by decide⟩
theorem dL_law_1615 : Dc cL_law 1615 (.dload 7) 2 1617 := ⟨by decide +kernel, rfl⟩
theorem dL_law_1617 : Dc cL_law 1617 (.dload 7) 2 1619 := ⟨by decide +kernel, rfl⟩
theorem dL_law_1619 : Dc cL_law 1619 (.dcmp .l) 1 1620 := ⟨by decide +kernel, rfl⟩
theorem dL_law_1620 : Dj cL_law 1620 (.ifCond .ne 5) 3 1623 (5) 1625 := ⟨by decide +kernel, rfl, by decide⟩
theorem dL_law_1623 : Dc cL_law 1623 (.iconst 0) 1 1624 := ⟨by decide +kernel, rfl⟩
theorem dL_law_1624 : Dc cL_law 1624 (.ireturn) 1 1625 := ⟨by decide +kernel, rfl⟩
theorem dL_law_1625 : Dj cL_law 1625 (.goto 17) 3 1628 (17) 1642 := ⟨by decide +kernel, rfl, by decide⟩
theorem dL_law_1628 : Dc cL_law 1628 (.aload_n 1) 1 1629 := ⟨by decide +kernel, rfl⟩
theorem dL_law_1629 : Dc cL_law 1629 (.invokevirtual 181) 3 1632 := ⟨by decide +kernel, rfl⟩
theorem dL_law_1632 : Dc cL_law 1632 (.aload_n 2) 1 1633 := ⟨by decide +kernel, rfl⟩
theorem dL_law_1633 : Dc cL_law 1633 (.invokevirtual 185) 3 1636 := ⟨by decide +kernel, rfl⟩
theorem dL_law_1636 : Dc cL_law 1636 (.lcmp) 1 1637 := ⟨by decide +kernel, rfl⟩
theorem dL_law_1637 : Dj cL_law 1637 (.ifCond .eq 5) 3 1640 (5) 1642 := ⟨by decide +kernel, rfl, by decide⟩
theorem dL_law_1640 : Dc cL_law 1640 (.iconst 0) 1 1641 := ⟨by decide +kernel, rfl⟩
theorem dL_law_1641 : Dc cL_law 1641 (.ireturn) 1 1642 := ⟨by decide +kernel, rfl⟩
theorem dL_law_1642 : Dc cL_law 1642 (.iinc 4 4) 3 1645 := ⟨by decide +kernel, rfl⟩
theorem dL_law_1645 : Dj cL_law 1645 (.goto (-1622)) 3 1648 (-1622) 23 := ⟨by decide +kernel, rfl, by decide⟩
theorem dL_law_1648 : Dc cL_law 1648 (.iconst 1) 1 1649 := ⟨by decide +kernel, rfl⟩
theorem dL_law_1649 : Dc cL_law 1649 (.ireturn) 1 1650 := ⟨by decide +kernel, rfl⟩
def LL_law_23 (xs : Nat → Int32) (L : Nat) : Nat → OM → Int32 → Option Int32
  | 0 => fun _ _ => none
  | n + 1 => fun o_2 v4_1 => if ((Int32.ofNat L) - ((4 : Int32))) < v4_1 then (some ((1 : Int32))) else (grd (inB v4_1 L) (bd ((xs v4_1.toNatClampNeg) &&& ((31 : Int32))) (fun t_3 : Int32 => bd (fun (o_4 : OM) => bd (v4_1 + (4 : Int32)) (fun v4_5 : Int32 => (LL_law_23 xs L n) o_4 v4_5)) (fun k1642 => if t_3 = 0 then (grd (inB (v4_1 + ((1 : Int32))) L) (grd (inB (v4_1 + ((2 : Int32))) L) (grd (inB (v4_1 + ((3 : Int32))) L) (bn (F_L_make o_2 (xs (v4_1 + ((1 : Int32))).toNatClampNeg) (xs (v4_1 + ((2 : Int32))).toNatClampNeg) (xs (v4_1 + ((3 : Int32))).toNatClampNeg)) (fun r_6 o_7 => grd (inB (v4_1 + ((1 : Int32))) L) (grd (inB (v4_1 + ((2 : Int32))) L) (grd (inB (v4_1 + ((3 : Int32))) L) (bn (F_X6_make o_7 (xs (v4_1 + ((1 : Int32))).toNatClampNeg) (xs (v4_1 + ((2 : Int32))).toNatClampNeg) (xs (v4_1 + ((3 : Int32))).toNatClampNeg)) (fun r_8 o_9 => bq (F_X6_thrown o_9) (fun r_10 => if r_10 = r_6 then (bd (fun (_ : Unit) => k1642 o_9) (fun k237 => if r_6 = 0 then (if (lg_cmp (rdL o_9 24) r_8.toInt64) = 0 then (k237 ()) else (some ((0 : Int32)))) else (k237 ()))) else (some ((0 : Int32))))))))))))) else (if t_3 = 1 then (grd (inB (v4_1 + ((1 : Int32))) L) (bn (F_L_breakOne o_2 (xs (v4_1 + ((1 : Int32))).toNatClampNeg)) (fun r_11 o_12 => grd (inB (v4_1 + ((1 : Int32))) L) (bn (F_X6_breakOne o_12 (xs (v4_1 + ((1 : Int32))).toNatClampNeg)) (fun r_13 o_14 => bq (F_X6_thrown o_14) (fun r_15 => if r_15 = r_11 then (bd (fun (_ : Unit) => k1642 o_14) (fun k293 => if r_11 = 0 then (if (lg_cmp (rdL o_14 24) r_13.toInt64) = 0 then (k293 ()) else (some ((0 : Int32)))) else (k293 ()))) else (some ((0 : Int32))))))))) else (if t_3 = 2 then (grd (inB (v4_1 + ((1 : Int32))) L) (grd (inB (v4_1 + ((2 : Int32))) L) (bn (F_L_bath o_2 (xs (v4_1 + ((1 : Int32))).toNatClampNeg) (xs (v4_1 + ((2 : Int32))).toNatClampNeg)) (fun r_16 o_17 => grd (inB (v4_1 + ((1 : Int32))) L) (grd (inB (v4_1 + ((2 : Int32))) L) (bn (F_X6_bath o_17 (xs (v4_1 + ((1 : Int32))).toNatClampNeg) (xs (v4_1 + ((2 : Int32))).toNatClampNeg)) (fun r_18 o_19 => bq (F_X6_thrown o_19) (fun r_20 => if r_20 = r_16 then (bd (fun (_ : Unit) => k1642 o_19) (fun k361 => if r_16 = 0 then (if (lg_cmp (rdL o_19 24) r_18.toInt64) = 0 then (k361 ()) else (some ((0 : Int32)))) else (k361 ()))) else (some ((0 : Int32))))))))))) else (if t_3 = 3 then (grd (inB (v4_1 + ((1 : Int32))) L) (bn (F_L_pass o_2 (xs (v4_1 + ((1 : Int32))).toNatClampNeg)) (fun r_21 o_22 => grd (inB (v4_1 + ((1 : Int32))) L) (bn (F_X6_pass o_22 (xs (v4_1 + ((1 : Int32))).toNatClampNeg)) (fun r_23 o_24 => bq (F_X6_thrown o_24) (fun r_25 => if r_25 = r_21 then (bd (fun (_ : Unit) => k1642 o_24) (fun k417 => if r_21 = 0 then (if (lg_cmp (rdL o_24 24) r_23.toInt64) = 0 then (k417 ()) else (some ((0 : Int32)))) else (k417 ()))) else (some ((0 : Int32))))))))) else (if t_3 = 4 then (grd (inB (v4_1 + ((1 : Int32))) L) (grd (inB (v4_1 + ((2 : Int32))) L) (bn (F_L_set o_2 (xs (v4_1 + ((1 : Int32))).toNatClampNeg) (xs (v4_1 + ((2 : Int32))).toNatClampNeg)) (fun r_26 o_27 => grd (inB (v4_1 + ((1 : Int32))) L) (grd (inB (v4_1 + ((2 : Int32))) L) (bn (F_X6_set o_27 (xs (v4_1 + ((1 : Int32))).toNatClampNeg) (xs (v4_1 + ((2 : Int32))).toNatClampNeg)) (fun r_28 o_29 => bq (F_X6_thrown o_29) (fun r_30 => if r_30 = r_26 then (bd (fun (_ : Unit) => k1642 o_29) (fun k485 => if r_26 = 0 then (if (lg_cmp (rdL o_29 24) r_28.toInt64) = 0 then (k485 ()) else (some ((0 : Int32)))) else (k485 ()))) else (some ((0 : Int32))))))))))) else (if t_3 = 5 then (grd (inB (v4_1 + ((1 : Int32))) L) (grd (inB (v4_1 + ((2 : Int32))) L) (bn (F_L_measure o_2 (xs (v4_1 + ((1 : Int32))).toNatClampNeg) (xs (v4_1 + ((2 : Int32))).toNatClampNeg)) (fun r_31 o_32 => grd (inB (v4_1 + ((1 : Int32))) L) (grd (inB (v4_1 + ((2 : Int32))) L) (bn (F_X6_measure o_32 (xs (v4_1 + ((1 : Int32))).toNatClampNeg) (xs (v4_1 + ((2 : Int32))).toNatClampNeg)) (fun r_33 o_34 => bq (F_X6_thrown o_34) (fun r_35 => if r_35 = r_31 then (bd (fun (_ : Unit) => k1642 o_34) (fun k553 => if r_31 = 0 then (if (lg_cmp (rdL o_34 24) r_33.toInt64) = 0 then (k553 ()) else (some ((0 : Int32)))) else (k553 ()))) else (some ((0 : Int32))))))))))) else (if t_3 = 6 then (grd (inB (v4_1 + ((1 : Int32))) L) (grd (inB (v4_1 + ((2 : Int32))) L) (bn (F_L_forget o_2 (xs (v4_1 + ((1 : Int32))).toNatClampNeg) (xs (v4_1 + ((2 : Int32))).toNatClampNeg)) (fun r_36 o_37 => grd (inB (v4_1 + ((1 : Int32))) L) (grd (inB (v4_1 + ((2 : Int32))) L) (bn (F_X6_forget o_37 (xs (v4_1 + ((1 : Int32))).toNatClampNeg) (xs (v4_1 + ((2 : Int32))).toNatClampNeg)) (fun r_38 o_39 => bq (F_X6_thrown o_39) (fun r_40 => if r_40 = r_36 then (bd (fun (_ : Unit) => k1642 o_39) (fun k621 => if r_36 = 0 then (if (lg_cmp (rdL o_39 24) r_38.toInt64) = 0 then (k621 ()) else (some ((0 : Int32)))) else (k621 ()))) else (some ((0 : Int32))))))))))) else (if t_3 = 7 then (grd (inB (v4_1 + ((1 : Int32))) L) (bn (F_L_paper o_2 (xs (v4_1 + ((1 : Int32))).toNatClampNeg)) (fun r_41 o_42 => grd (inB (v4_1 + ((1 : Int32))) L) (bn (F_X6_paper o_42 (xs (v4_1 + ((1 : Int32))).toNatClampNeg)) (fun r_43 o_44 => bq (F_X6_thrown o_44) (fun r_45 => if r_45 = r_41 then (bd (fun (_ : Unit) => k1642 o_44) (fun k677 => if r_41 = 0 then (if (lg_cmp (rdL o_44 24) r_43.toInt64) = 0 then (k677 ()) else (some ((0 : Int32)))) else (k677 ()))) else (some ((0 : Int32))))))))) else (if t_3 = 8 then (grd (inB (v4_1 + ((1 : Int32))) L) (bn (F_L_append o_2 (xs (v4_1 + ((1 : Int32))).toNatClampNeg)) (fun r_46 o_47 => grd (inB (v4_1 + ((1 : Int32))) L) (bn (F_X6_append o_47 (xs (v4_1 + ((1 : Int32))).toNatClampNeg)) (fun r_48 o_49 => bq (F_X6_thrown o_49) (fun r_50 => if r_50 = r_46 then (bd (fun (_ : Unit) => k1642 o_49) (fun k733 => if r_46 = 0 then (if (lg_cmp (rdL o_49 24) r_48.toInt64) = 0 then (k733 ()) else (some ((0 : Int32)))) else (k733 ()))) else (some ((0 : Int32))))))))) else (if t_3 = 9 then (bn (F_X5_clearBuffer o_2) (fun r_51 o_52 => bn (F_X6_clearBuffer o_52) (fun r_53 o_54 => if r_51 = r_53 then (k1642 o_54) else (some ((0 : Int32)))))) else (if t_3 = 10 then (bn (F_X5_firstError o_2) (fun r_55 o_56 => bn (F_X6_firstError o_56) (fun r_57 o_58 => if r_55 = r_57 then (k1642 o_58) else (some ((0 : Int32)))))) else (if t_3 = 11 then (bn (F_L_work o_2) (fun r_59 o_60 => bn (F_X6_work o_60) (fun r_61 o_62 => bq (F_X6_thrown o_62) (fun r_63 => if r_63 = r_59 then (bd (fun (_ : Unit) => k1642 o_62) (fun k803 => if r_59 = 0 then (if (lg_cmp (rdL o_62 24) r_61.toInt64) = 0 then (k803 ()) else (some ((0 : Int32)))) else (k803 ()))) else (some ((0 : Int32))))))) else (if t_3 = 12 then (grd (inB (v4_1 + ((1 : Int32))) L) (bn (F_L_stopped o_2 (xs (v4_1 + ((1 : Int32))).toNatClampNeg)) (fun r_64 o_65 => grd (inB (v4_1 + ((1 : Int32))) L) (bn (F_X6_stopped o_65 (xs (v4_1 + ((1 : Int32))).toNatClampNeg)) (fun r_66 o_67 => bq (F_X6_thrown o_67) (fun r_68 => if r_68 = r_64 then (bd (fun (_ : Unit) => k1642 o_67) (fun k859 => if r_64 = 0 then (if (lg_cmp (rdL o_67 24) r_66.toInt64) = 0 then (k859 ()) else (some ((0 : Int32)))) else (k859 ()))) else (some ((0 : Int32))))))))) else (if t_3 = 13 then (bn (F_L_undo o_2) (fun r_69 o_70 => bn (F_X6_undo o_70) (fun r_71 o_72 => bq (F_X6_thrown o_72) (fun r_73 => if r_73 = r_69 then (bd (fun (_ : Unit) => k1642 o_72) (fun k903 => if r_69 = 0 then (if (lg_cmp (rdL o_72 24) r_71.toInt64) = 0 then (k903 ()) else (some ((0 : Int32)))) else (k903 ()))) else (some ((0 : Int32))))))) else (if t_3 = 14 then (bn (F_X5_keep o_2) (fun r_74 o_75 => bn (F_X6_keep o_75) (fun r_76 o_77 => if r_74 = r_76 then (k1642 o_77) else (some ((0 : Int32)))))) else (if t_3 = 15 then (bn (F_L_restore o_2) (fun r_78 o_79 => bn (F_X6_restore o_79) (fun r_80 o_81 => bq (F_X6_thrown o_81) (fun r_82 => if r_82 = r_78 then (bd (fun (_ : Unit) => k1642 o_81) (fun k960 => if r_78 = 0 then (if (lg_cmp (rdL o_81 24) r_80.toInt64) = 0 then (k960 ()) else (some ((0 : Int32)))) else (k960 ()))) else (some ((0 : Int32))))))) else (if t_3 = 16 then (grd (inB (v4_1 + ((1 : Int32))) L) (grd (inB (v4_1 + ((2 : Int32))) L) (bn (F_L_reads o_2 (xs (v4_1 + ((1 : Int32))).toNatClampNeg) (xs (v4_1 + ((2 : Int32))).toNatClampNeg)) (fun r_83 o_84 => grd (inB (v4_1 + ((1 : Int32))) L) (grd (inB (v4_1 + ((2 : Int32))) L) (bn (F_X6_reads o_84 (xs (v4_1 + ((1 : Int32))).toNatClampNeg) (xs (v4_1 + ((2 : Int32))).toNatClampNeg)) (fun r_85 o_86 => bq (F_X6_thrown o_86) (fun r_87 => if r_87 = r_83 then (bd (fun (_ : Unit) => k1642 o_86) (fun k1028 => if r_83 = 0 then (if (lg_cmp (rdL o_86 24) r_85.toInt64) = 0 then (k1028 ()) else (some ((0 : Int32)))) else (k1028 ()))) else (some ((0 : Int32))))))))))) else (if t_3 = 17 then (grd (inB (v4_1 + ((1 : Int32))) L) (grd (inB (v4_1 + ((2 : Int32))) L) (grd (inB (v4_1 + ((3 : Int32))) L) (bn (F_L_corrected o_2 (xs (v4_1 + ((1 : Int32))).toNatClampNeg) (xs (v4_1 + ((2 : Int32))).toNatClampNeg) (xs (v4_1 + ((3 : Int32))).toNatClampNeg)) (fun r_88 o_89 => grd (inB (v4_1 + ((1 : Int32))) L) (grd (inB (v4_1 + ((2 : Int32))) L) (grd (inB (v4_1 + ((3 : Int32))) L) (bn (F_X6_corrected o_89 (xs (v4_1 + ((1 : Int32))).toNatClampNeg) (xs (v4_1 + ((2 : Int32))).toNatClampNeg) (xs (v4_1 + ((3 : Int32))).toNatClampNeg)) (fun r_90 o_91 => bq (F_X6_thrown o_91) (fun r_92 => if r_92 = r_88 then (bd (fun (_ : Unit) => k1642 o_91) (fun k1108 => if r_88 = 0 then (if (lg_cmp (rdL o_91 24) r_90.toInt64) = 0 then (k1108 ()) else (some ((0 : Int32)))) else (k1108 ()))) else (some ((0 : Int32))))))))))))) else (if t_3 = 18 then (grd (inB (v4_1 + ((1 : Int32))) L) (grd (inB (v4_1 + ((2 : Int32))) L) (bn (F_L_thermometer o_2 (xs (v4_1 + ((1 : Int32))).toNatClampNeg) (xs (v4_1 + ((2 : Int32))).toNatClampNeg)) (fun r_93 o_94 => grd (inB (v4_1 + ((1 : Int32))) L) (grd (inB (v4_1 + ((2 : Int32))) L) (bn (F_X6_thermometer o_94 (xs (v4_1 + ((1 : Int32))).toNatClampNeg) (xs (v4_1 + ((2 : Int32))).toNatClampNeg)) (fun r_95 o_96 => bq (F_X6_thrown o_96) (fun r_97 => if r_97 = r_93 then (bd (fun (_ : Unit) => k1642 o_96) (fun k1176 => if r_93 = 0 then (if (lg_cmp (rdL o_96 24) r_95.toInt64) = 0 then (k1176 ()) else (some ((0 : Int32)))) else (k1176 ()))) else (some ((0 : Int32))))))))))) else (if t_3 = 19 then (grd (inB (v4_1 + ((1 : Int32))) L) (grd (inB (v4_1 + ((2 : Int32))) L) (grd (inB (v4_1 + ((3 : Int32))) L) (bn (F_L_point o_2 (xs (v4_1 + ((1 : Int32))).toNatClampNeg) (xs (v4_1 + ((2 : Int32))).toNatClampNeg) (xs (v4_1 + ((3 : Int32))).toNatClampNeg)) (fun r_98 o_99 => grd (inB (v4_1 + ((1 : Int32))) L) (grd (inB (v4_1 + ((2 : Int32))) L) (grd (inB (v4_1 + ((3 : Int32))) L) (bn (F_X6_point o_99 (xs (v4_1 + ((1 : Int32))).toNatClampNeg) (xs (v4_1 + ((2 : Int32))).toNatClampNeg) (xs (v4_1 + ((3 : Int32))).toNatClampNeg)) (fun r_100 o_101 => bq (F_X6_thrown o_101) (fun r_102 => if r_102 = r_98 then (bd (fun (_ : Unit) => k1642 o_101) (fun k1256 => if r_98 = 0 then (if (lg_cmp (rdL o_101 24) r_100.toInt64) = 0 then (k1256 ()) else (some ((0 : Int32)))) else (k1256 ()))) else (some ((0 : Int32))))))))))))) else (if t_3 = 20 then (grd (inB (v4_1 + ((1 : Int32))) L) (bn (F_L_count o_2 (xs (v4_1 + ((1 : Int32))).toNatClampNeg)) (fun r_103 o_104 => grd (inB (v4_1 + ((1 : Int32))) L) (bn (F_X6_count o_104 (xs (v4_1 + ((1 : Int32))).toNatClampNeg)) (fun r_105 o_106 => bq (F_X6_thrown o_106) (fun r_107 => if r_107 = r_103 then (bd (fun (_ : Unit) => k1642 o_106) (fun k1312 => if r_103 = 0 then (if (lg_cmp (rdL o_106 24) r_105.toInt64) = 0 then (k1312 ()) else (some ((0 : Int32)))) else (k1312 ()))) else (some ((0 : Int32))))))))) else (if t_3 = 21 then (grd (inB (v4_1 + ((1 : Int32))) L) (grd (inB (v4_1 + ((2 : Int32))) L) (bn (F_L_whyNot o_2 (xs (v4_1 + ((1 : Int32))).toNatClampNeg) (xs (v4_1 + ((2 : Int32))).toNatClampNeg)) (fun r_108 o_109 => grd (inB (v4_1 + ((1 : Int32))) L) (grd (inB (v4_1 + ((2 : Int32))) L) (bn (F_X6_whyNot o_109 (xs (v4_1 + ((1 : Int32))).toNatClampNeg) (xs (v4_1 + ((2 : Int32))).toNatClampNeg)) (fun r_110 o_111 => bq (F_X6_thrown o_111) (fun r_112 => if r_112 = r_108 then (bd (fun (_ : Unit) => k1642 o_111) (fun k1380 => if r_108 = 0 then (if (lg_cmp (rdL o_111 24) r_110.toInt64) = 0 then (k1380 ()) else (some ((0 : Int32)))) else (k1380 ()))) else (some ((0 : Int32))))))))))) else (if t_3 = 22 then (grd (inB (v4_1 + ((1 : Int32))) L) (grd (inB (v4_1 + ((2 : Int32))) L) (grd (inB (v4_1 + ((3 : Int32))) L) (bn (F_L_overlap o_2 (xs (v4_1 + ((1 : Int32))).toNatClampNeg) (xs (v4_1 + ((2 : Int32))).toNatClampNeg) (xs (v4_1 + ((3 : Int32))).toNatClampNeg)) (fun r_113 o_114 => grd (inB (v4_1 + ((1 : Int32))) L) (grd (inB (v4_1 + ((2 : Int32))) L) (grd (inB (v4_1 + ((3 : Int32))) L) (bn (F_X6_overlap o_114 (xs (v4_1 + ((1 : Int32))).toNatClampNeg) (xs (v4_1 + ((2 : Int32))).toNatClampNeg) (xs (v4_1 + ((3 : Int32))).toNatClampNeg)) (fun r_115 o_116 => bq (F_X6_thrown o_116) (fun r_117 => if r_117 = r_113 then (bd (fun (_ : Unit) => k1642 o_116) (fun k1460 => if r_113 = 0 then (if (lg_cmp (rdL o_116 24) r_115.toInt64) = 0 then (k1460 ()) else (some ((0 : Int32)))) else (k1460 ()))) else (some ((0 : Int32))))))))))))) else (if t_3 = 23 then (grd (inB (v4_1 + ((1 : Int32))) L) (grd (inB (v4_1 + ((2 : Int32))) L) (bn (F_L_worstDegree o_2 (xs (v4_1 + ((1 : Int32))).toNatClampNeg) (xs (v4_1 + ((2 : Int32))).toNatClampNeg)) (fun r_118 o_119 => grd (inB (v4_1 + ((1 : Int32))) L) (grd (inB (v4_1 + ((2 : Int32))) L) (bn (F_X6_worstDegree o_119 (xs (v4_1 + ((1 : Int32))).toNatClampNeg) (xs (v4_1 + ((2 : Int32))).toNatClampNeg)) (fun r_120 o_121 => bq (F_X6_thrown o_121) (fun r_122 => if r_122 = r_118 then (bd (fun (_ : Unit) => k1642 o_121) (fun k1528 => if r_118 = 0 then (if (lg_cmp (rdL o_121 24) r_120.toInt64) = 0 then (k1528 ()) else (some ((0 : Int32)))) else (k1528 ()))) else (some ((0 : Int32))))))))))) else (if t_3 = 24 then (grd (inB (v4_1 + ((1 : Int32))) L) (bn (F_L_voidIn o_2 (xs (v4_1 + ((1 : Int32))).toNatClampNeg)) (fun r_123 o_124 => grd (inB (v4_1 + ((1 : Int32))) L) (bn (F_X6_voidIn o_124 (xs (v4_1 + ((1 : Int32))).toNatClampNeg)) (fun r_125 o_126 => bq (F_X6_thrown o_126) (fun r_127 => if r_127 = r_123 then (bd (fun (_ : Unit) => k1642 o_126) (fun k1584 => if r_123 = 0 then (if (lg_cmp (rdL o_126 24) r_125.toInt64) = 0 then (k1584 ()) else (some ((0 : Int32)))) else (k1584 ()))) else (some ((0 : Int32))))))))) else (if t_3 = 25 then (bq (F_X5_validShare o_2) (fun r_128 => bn (F_X6_validShare o_2) (fun r_129 o_130 => bd (fun (_ : Unit) => k1642 o_130) (fun k1625 => if (Op.cmpValue (FP.dcmp r_128 r_129) .l) = 0 then (k1625 ()) else (bd (fun (_ : Unit) => some ((0 : Int32))) (fun k1623 => if (Op.cmpValue (FP.dcmp r_128 r_128) .l) = 0 then (k1623 ()) else (if (Op.cmpValue (FP.dcmp r_129 r_129) .l) = 0 then (k1623 ()) else (k1625 ())))))))) else (if t_3 = 26 then (bn (F_L_digest o_2) (fun r_131 o_132 => bn (F_X6_digest o_132) (fun r_133 o_134 => if (lg_cmp r_131 r_133) = 0 then (k1642 o_134) else (some ((0 : Int32)))))) else (k1642 o_2)))))))))))))))))))))))))))))))
set_option maxHeartbeats 8000000 in
set_option maxRecDepth 100000 in
theorem lL_law {G : Gd} {p : Program} {l : Launch} {e : Env} {s : State} {m : MethodId} {args : Array Value} {below : List Frame} {meth : Method} {c : Code} {Q : State → Prop} {b L : Nat} {xs : Nat → Int32} (C : Cx G RL cL_law 9 (some .boolean) p s m args meth c) (X : XW G s) (hl9 : l.stackTraces = false) (hX : va_X b L xs s s.heap) (hbl : b < s.heap.size) (hbA : ¬ fr G b) (hret : ∀ H L ls cl sl, va_S (fr G) s.heap H L → cl ≤ 601024 → sl ≤ 7293034 → W p l e room_1 s m args below meth c H L cl sl Q (F0 m 1649 ls [.int 1])) : ∀ (n : Nat) (o_2 : OM) (v4_1 : Int32) H1 L1 ls (cl sl : Nat), cl + n ≤ 601024 → sl + 6 * n ≤ 7293034 → Hp G o_2 s H1 L1 → lv_has ls 9 [(0, .ref b), (1, .ref (rA G 0 0)), (2, .ref (rA G 19 0)), (3, .ref (rA G 24 0)), (4, .int v4_1)] → LL_law_23 xs L n o_2 v4_1 = some 1 → W p l e room_1 s m args below meth c H1 L1 cl sl Q (F0 m 23 ls []) := by
  intro n
  induction n with
  | zero =>
    intro o_2 v4_1 H1 L1 ls cl sl hc1 hc2 P hl hf
    exact nomatch hf
  | succ n ih =>
    intro o_2 v4_1 H1 L1 ls cl sl hc1 hc2 P hl hf
    rw [LL_law_23.eq_2] at hf
    refine r_iload C hl 4 rfl dL_law_23 ?_
    refine r_aload_n C hl 0 rfl rfl dL_law_25 ?_
    refine w_slen C hX hbl hbA P dL_law_26 ?_
    refine r_iconst C (v := 4) (by decide) dL_law_27 ?_
    refine r_isub C dL_law_28 ?_
    refine r_icmp_gt C dL_law_29 hf (fun hf => ?_) (fun hf => ?_)
    · refine r_iconst C (v := 1) (by decide) dL_law_1648 ?_
      exact hret _ _ _ _ _ P.2 (by omega) (by omega)
    · refine r_aload_n C hl 0 rfl rfl dL_law_32 ?_
      refine r_iload C hl 4 rfl dL_law_33 ?_
      refine w_sld C hX hbl hbA P dL_law_35 hf (fun hf => ?_)
      refine r_bipush C (v := 31) (by decide) dL_law_36 ?_
      refine r_iand C dL_law_38 ?_
      refine r_bdi hf (fun t_3 hf => ?_)
      refine r_jn (fun k1642 : OM → Option Int32 => ∀ (o_4 : OM) H1 L1 ls (cl sl : Nat), cl + n ≤ 601024 → sl + 6 * n ≤ 7293034 → Hp G o_4 s H1 L1 → lv_has ls 9 [(0, .ref b), (1, .ref (rA G 0 0)), (2, .ref (rA G 19 0)), (3, .ref (rA G 24 0)), (4, .int v4_1)] → k1642 o_4 = some 1 → W p l e room_1 s m args below meth c H1 L1 cl sl Q (F0 m 1642 ls [])) hf ?_ (fun k1642 j1642 hf => ?_)
      · intro o_4 H1 L1 ls cl sl hc1 hc2  P hl hf
        refine r_iinc C (fun v4_5 => [(4, .int v4_5), (0, .ref b), (1, .ref (rA G 0 0)), (2, .ref (rA G 19 0)), (3, .ref (rA G 24 0))]) (w := 4) 4 hl rfl (by decide) (by decide) (fun _ => rfl) dL_law_1642 hf (fun v4_5 ls hl hf => ?_)
        refine r_goto C dL_law_1645 ?_
        exact ih o_4 v4_5 _ _ _ _ _ (by omega) (by omega) P (lv_sub hl [1, 2, 3, 4, 0] rfl) hf
      refine r_ite hf (fun hc0 hf => ?_) (fun hc0 hf => ?_)
      · refine lv_tableIn C.1 C.2.1 (off := 121) (tgt := 160) dL_law_39.1 (by rw [hc0] <;> decide) (by rw [hc0] <;> decide) (by rw [hc0] <;> decide) rfl ?_
        refine r_aload_n C hl 1 rfl rfl dL_law_160 ?_
        refine r_aload_n C hl 0 rfl rfl dL_law_161 ?_
        refine r_iload C hl 4 rfl dL_law_162 ?_
        refine r_iconst C (v := 1) (by decide) dL_law_164 ?_
        refine r_iadd2 C dL_law_165 ?_
        refine w_sld C hX hbl hbA P dL_law_166 hf (fun hf => ?_)
        refine r_aload_n C hl 0 rfl rfl dL_law_167 ?_
        refine r_iload C hl 4 rfl dL_law_168 ?_
        refine r_iconst C (v := 2) (by decide) dL_law_170 ?_
        refine r_iadd2 C dL_law_171 ?_
        refine w_sld C hX hbl hbA P dL_law_172 hf (fun hf => ?_)
        refine r_aload_n C hl 0 rfl rfl dL_law_173 ?_
        refine r_iload C hl 4 rfl dL_law_174 ?_
        refine r_iconst C (v := 3) (by decide) dL_law_176 ?_
        refine r_iadd2 C dL_law_177 ?_
        refine w_sld C hX hbl hbA P dL_law_178 hf (fun hf => ?_)
        refine r_aload_n C hl 3 rfl rfl dL_law_179 ?_
        refine w_cS C X P cfw_89 (rm := rmL_make) [.ref (rA G 0 0), .int (xs (v4_1 + ((1 : Int32))).toNatClampNeg), .int (xs (v4_1 + ((2 : Int32))).toNatClampNeg), .int (xs (v4_1 + ((3 : Int32))).toNatClampNeg), .ref (rA G 24 0)] [] hf (fun _ _ h => ctL_make l G hl9 o_2 (xs (v4_1 + ((1 : Int32))).toNatClampNeg) (xs (v4_1 + ((2 : Int32))).toNatClampNeg) (xs (v4_1 + ((3 : Int32))).toNatClampNeg) h) ⟨Nat.le_of_ble_eq_true rfl, Nat.le_of_ble_eq_true rfl⟩ ⟨by show _ ≤ 601024; omega, by show _ ≤ 7293034; omega⟩ rfl rfl hl.1 (Nat.le_of_ble_eq_true rfl) dL_law_180 (fun r_6 o_7 cl sl H1 L1 hb1 hb2 P hf => ?_)
        refine r_istore C [(5, .int r_6), (0, .ref b), (1, .ref (rA G 0 0)), (2, .ref (rA G 19 0)), (3, .ref (rA G 24 0)), (4, .int v4_1)] hl (by decide) rfl dL_law_183 (fun ls hl => ?_)
        refine r_aload_n C hl 3 rfl rfl dL_law_185 ?_
        refine r_aload_n C hl 1 rfl rfl dL_law_186 ?_
        refine r_iload C hl 5 rfl dL_law_187 ?_
        refine r_iconst C (v := 1) (by decide) dL_law_189 ?_
        refine r_iadd2 C dL_law_190 ?_
        refine w_sld C hX hbl hbA P dL_law_191 hf (fun hf => ?_)
        refine r_aload_n C hl 1 rfl rfl dL_law_192 ?_
        refine r_iload C hl 5 rfl dL_law_193 ?_
        refine r_iconst C (v := 2) (by decide) dL_law_195 ?_
        refine r_iadd2 C dL_law_196 ?_
        refine w_sld C hX hbl hbA P dL_law_197 hf (fun hf => ?_)
        refine r_aload_n C hl 1 rfl rfl dL_law_198 ?_
        refine r_iload C hl 5 rfl dL_law_199 ?_
        refine r_iconst C (v := 3) (by decide) dL_law_201 ?_
        refine r_iadd2 C dL_law_202 ?_
        refine w_sld C hX hbl hbA P dL_law_203 hf (fun hf => ?_)
        refine r_cVi C P cf_L_94 (rm := rmX6_make) 19 0 (fun _ _ => ⟨_, rfl⟩) rfl rfl rfl [.int (xs (v4_1 + ((1 : Int32))).toNatClampNeg), .int (xs (v4_1 + ((2 : Int32))).toNatClampNeg), .int (xs (v4_1 + ((3 : Int32))).toNatClampNeg)] [] hf (fun _ _ h => ctX6_make l G o_7 (xs (v4_1 + ((1 : Int32))).toNatClampNeg) (xs (v4_1 + ((2 : Int32))).toNatClampNeg) (xs (v4_1 + ((3 : Int32))).toNatClampNeg) h) ⟨rfl, rfl⟩ ⟨Nat.le_of_ble_eq_true rfl, Nat.le_of_ble_eq_true rfl⟩ ⟨by show _ ≤ 601024; omega, by show _ ≤ 7293034; omega⟩ rfl rfl hl.1 (Nat.le_of_ble_eq_true rfl) dL_law_204 (fun r_8 o_9 H1 L1 P hf => ?_)
        refine r_istore C [(6, .int r_8), (5, .int r_6), (0, .ref b), (1, .ref (rA G 0 0)), (2, .ref (rA G 19 0)), (3, .ref (rA G 24 0)), (4, .int v4_1)] hl (by decide) rfl dL_law_207 (fun ls hl => ?_)
        refine r_aload_n C hl 4 rfl rfl dL_law_209 ?_
        refine r_qVi C P cf_L_95 (rm := rmX6_thrown) 19 0 (fun _ _ => ⟨_, rfl⟩) rfl rfl rfl [] [] hf (fun _ h => ctX6_thrown l G o_9 h) ⟨rfl, rfl⟩ ⟨Nat.le_of_ble_eq_true rfl, Nat.le_of_ble_eq_true rfl⟩ ⟨by show _ ≤ 601024; omega, by show _ ≤ 7293034; omega⟩ rfl rfl hl.1 (Nat.le_of_ble_eq_true rfl) dL_law_210 (fun r_10 H1 L1 P hf => ?_)
        refine r_iload C hl 1 rfl dL_law_213 ?_
        refine r_icmp_eq C dL_law_215 hf (fun hf => ?_) (fun hf => ?_)
        · refine r_iload C hl 1 rfl dL_law_220 ?_
          refine r_jn (fun k237 : Unit → Option Int32 => ∀ H1 L1 ls (cl sl : Nat), cl + n ≤ 601024 → sl + 6 * n ≤ 7293034 → Hp G o_9 s H1 L1 → lv_has ls 9 [(0, .ref b), (1, .ref (rA G 0 0)), (2, .ref (rA G 19 0)), (3, .ref (rA G 24 0)), (4, .int v4_1)] → k237 () = some 1 → W p l e room_1 s m args below meth c H1 L1 cl sl Q (F0 m 237 ls [])) hf ?_ (fun k237 j237 hf => ?_)
          · intro  H1 L1 ls cl sl hc1 hc2  P hl hf
            refine r_goto C dL_law_237 ?_
            exact j1642 o_9 _ _ _ _ _ (by omega) (by omega) P (lv_sub hl [0, 1, 2, 3, 4] rfl) hf
          refine r_if_ne C dL_law_222 hf (fun hf => ?_) (fun hf => ?_)
          · exact j237  _ _ _ _ _ (by omega) (by omega) P (lv_sub hl [2, 3, 4, 5, 6] rfl) hf
          · refine r_aload_n C hl 5 rfl rfl dL_law_225 ?_
            refine r_iconst C (v := 0) (by decide) dL_law_226 ?_
            refine w_lald C P dL_law_227 ?_
            refine r_iload C hl 0 rfl dL_law_228 ?_
            refine r_i2l C dL_law_230 ?_
            refine r_lcmp C dL_law_231 ?_
            refine r_if_eq C dL_law_232 hf (fun hf => ?_) (fun hf => ?_)
            · exact j237  _ _ _ _ _ (by omega) (by omega) P (lv_sub hl [2, 3, 4, 5, 6] rfl) hf
            · refine r_iconst C (v := 0) (by decide) dL_law_235 ?_
              exact absurd (Option.some.inj hf) (by decide)
        · refine r_iconst C (v := 0) (by decide) dL_law_218 ?_
          exact absurd (Option.some.inj hf) (by decide)
      · refine r_ite hf (fun hc1 hf => ?_) (fun hc1 hf => ?_)
        · refine lv_tableIn C.1 C.2.1 (off := 201) (tgt := 240) dL_law_39.1 (by rw [hc1] <;> decide) (by rw [hc1] <;> decide) (by rw [hc1] <;> decide) rfl ?_
          refine r_aload_n C hl 1 rfl rfl dL_law_240 ?_
          refine r_aload_n C hl 0 rfl rfl dL_law_241 ?_
          refine r_iload C hl 4 rfl dL_law_242 ?_
          refine r_iconst C (v := 1) (by decide) dL_law_244 ?_
          refine r_iadd2 C dL_law_245 ?_
          refine w_sld C hX hbl hbA P dL_law_246 hf (fun hf => ?_)
          refine r_aload_n C hl 3 rfl rfl dL_law_247 ?_
          refine w_cS C X P cfw_98 (rm := rmL_breakOne) [.ref (rA G 0 0), .int (xs (v4_1 + ((1 : Int32))).toNatClampNeg), .ref (rA G 24 0)] [] hf (fun _ _ h => ctL_breakOne l G hl9 o_2 (xs (v4_1 + ((1 : Int32))).toNatClampNeg) h) ⟨Nat.le_of_ble_eq_true rfl, Nat.le_of_ble_eq_true rfl⟩ ⟨by show _ ≤ 601024; omega, by show _ ≤ 7293034; omega⟩ rfl rfl hl.1 (Nat.le_of_ble_eq_true rfl) dL_law_248 (fun r_11 o_12 cl sl H1 L1 hb1 hb2 P hf => ?_)
          refine r_istore C [(5, .int r_11), (0, .ref b), (1, .ref (rA G 0 0)), (2, .ref (rA G 19 0)), (3, .ref (rA G 24 0)), (4, .int v4_1)] hl (by decide) rfl dL_law_251 (fun ls hl => ?_)
          refine r_aload_n C hl 3 rfl rfl dL_law_253 ?_
          refine r_aload_n C hl 1 rfl rfl dL_law_254 ?_
          refine r_iload C hl 5 rfl dL_law_255 ?_
          refine r_iconst C (v := 1) (by decide) dL_law_257 ?_
          refine r_iadd2 C dL_law_258 ?_
          refine w_sld C hX hbl hbA P dL_law_259 hf (fun hf => ?_)
          refine r_cVi C P cf_L_101 (rm := rmX6_breakOne) 19 0 (fun _ _ => ⟨_, rfl⟩) rfl rfl rfl [.int (xs (v4_1 + ((1 : Int32))).toNatClampNeg)] [] hf (fun _ _ h => ctX6_breakOne l G o_12 (xs (v4_1 + ((1 : Int32))).toNatClampNeg) h) ⟨rfl, rfl⟩ ⟨Nat.le_of_ble_eq_true rfl, Nat.le_of_ble_eq_true rfl⟩ ⟨by show _ ≤ 601024; omega, by show _ ≤ 7293034; omega⟩ rfl rfl hl.1 (Nat.le_of_ble_eq_true rfl) dL_law_260 (fun r_13 o_14 H1 L1 P hf => ?_)
          refine r_istore C [(6, .int r_13), (5, .int r_11), (0, .ref b), (1, .ref (rA G 0 0)), (2, .ref (rA G 19 0)), (3, .ref (rA G 24 0)), (4, .int v4_1)] hl (by decide) rfl dL_law_263 (fun ls hl => ?_)
          refine r_aload_n C hl 4 rfl rfl dL_law_265 ?_
          refine r_qVi C P cf_L_95 (rm := rmX6_thrown) 19 0 (fun _ _ => ⟨_, rfl⟩) rfl rfl rfl [] [] hf (fun _ h => ctX6_thrown l G o_14 h) ⟨rfl, rfl⟩ ⟨Nat.le_of_ble_eq_true rfl, Nat.le_of_ble_eq_true rfl⟩ ⟨by show _ ≤ 601024; omega, by show _ ≤ 7293034; omega⟩ rfl rfl hl.1 (Nat.le_of_ble_eq_true rfl) dL_law_266 (fun r_15 H1 L1 P hf => ?_)
          refine r_iload C hl 1 rfl dL_law_269 ?_
          refine r_icmp_eq C dL_law_271 hf (fun hf => ?_) (fun hf => ?_)
          · refine r_iload C hl 1 rfl dL_law_276 ?_
            refine r_jn (fun k293 : Unit → Option Int32 => ∀ H1 L1 ls (cl sl : Nat), cl + n ≤ 601024 → sl + 6 * n ≤ 7293034 → Hp G o_14 s H1 L1 → lv_has ls 9 [(0, .ref b), (1, .ref (rA G 0 0)), (2, .ref (rA G 19 0)), (3, .ref (rA G 24 0)), (4, .int v4_1)] → k293 () = some 1 → W p l e room_1 s m args below meth c H1 L1 cl sl Q (F0 m 293 ls [])) hf ?_ (fun k293 j293 hf => ?_)
            · intro  H1 L1 ls cl sl hc1 hc2  P hl hf
              refine r_goto C dL_law_293 ?_
              exact j1642 o_14 _ _ _ _ _ (by omega) (by omega) P (lv_sub hl [0, 1, 2, 3, 4] rfl) hf
            refine r_if_ne C dL_law_278 hf (fun hf => ?_) (fun hf => ?_)
            · exact j293  _ _ _ _ _ (by omega) (by omega) P (lv_sub hl [2, 3, 4, 5, 6] rfl) hf
            · refine r_aload_n C hl 5 rfl rfl dL_law_281 ?_
              refine r_iconst C (v := 0) (by decide) dL_law_282 ?_
              refine w_lald C P dL_law_283 ?_
              refine r_iload C hl 0 rfl dL_law_284 ?_
              refine r_i2l C dL_law_286 ?_
              refine r_lcmp C dL_law_287 ?_
              refine r_if_eq C dL_law_288 hf (fun hf => ?_) (fun hf => ?_)
              · exact j293  _ _ _ _ _ (by omega) (by omega) P (lv_sub hl [2, 3, 4, 5, 6] rfl) hf
              · refine r_iconst C (v := 0) (by decide) dL_law_291 ?_
                exact absurd (Option.some.inj hf) (by decide)
          · refine r_iconst C (v := 0) (by decide) dL_law_274 ?_
            exact absurd (Option.some.inj hf) (by decide)
        · refine r_ite hf (fun hc2 hf => ?_) (fun hc2 hf => ?_)
          · refine lv_tableIn C.1 C.2.1 (off := 257) (tgt := 296) dL_law_39.1 (by rw [hc2] <;> decide) (by rw [hc2] <;> decide) (by rw [hc2] <;> decide) rfl ?_
            refine r_aload_n C hl 1 rfl rfl dL_law_296 ?_
            refine r_aload_n C hl 0 rfl rfl dL_law_297 ?_
            refine r_iload C hl 4 rfl dL_law_298 ?_
            refine r_iconst C (v := 1) (by decide) dL_law_300 ?_
            refine r_iadd2 C dL_law_301 ?_
            refine w_sld C hX hbl hbA P dL_law_302 hf (fun hf => ?_)
            refine r_aload_n C hl 0 rfl rfl dL_law_303 ?_
            refine r_iload C hl 4 rfl dL_law_304 ?_
            refine r_iconst C (v := 2) (by decide) dL_law_306 ?_
            refine r_iadd2 C dL_law_307 ?_
            refine w_sld C hX hbl hbA P dL_law_308 hf (fun hf => ?_)
            refine r_aload_n C hl 3 rfl rfl dL_law_309 ?_
            refine w_cS C X P cfw_102 (rm := rmL_bath) [.ref (rA G 0 0), .int (xs (v4_1 + ((1 : Int32))).toNatClampNeg), .int (xs (v4_1 + ((2 : Int32))).toNatClampNeg), .ref (rA G 24 0)] [] hf (fun _ _ h => ctL_bath l G hl9 o_2 (xs (v4_1 + ((1 : Int32))).toNatClampNeg) (xs (v4_1 + ((2 : Int32))).toNatClampNeg) h) ⟨Nat.le_of_ble_eq_true rfl, Nat.le_of_ble_eq_true rfl⟩ ⟨by show _ ≤ 601024; omega, by show _ ≤ 7293034; omega⟩ rfl rfl hl.1 (Nat.le_of_ble_eq_true rfl) dL_law_310 (fun r_16 o_17 cl sl H1 L1 hb1 hb2 P hf => ?_)
            refine r_istore C [(5, .int r_16), (0, .ref b), (1, .ref (rA G 0 0)), (2, .ref (rA G 19 0)), (3, .ref (rA G 24 0)), (4, .int v4_1)] hl (by decide) rfl dL_law_313 (fun ls hl => ?_)
            refine r_aload_n C hl 3 rfl rfl dL_law_315 ?_
            refine r_aload_n C hl 1 rfl rfl dL_law_316 ?_
            refine r_iload C hl 5 rfl dL_law_317 ?_
            refine r_iconst C (v := 1) (by decide) dL_law_319 ?_
            refine r_iadd2 C dL_law_320 ?_
            refine w_sld C hX hbl hbA P dL_law_321 hf (fun hf => ?_)
            refine r_aload_n C hl 1 rfl rfl dL_law_322 ?_
            refine r_iload C hl 5 rfl dL_law_323 ?_
            refine r_iconst C (v := 2) (by decide) dL_law_325 ?_
            refine r_iadd2 C dL_law_326 ?_
            refine w_sld C hX hbl hbA P dL_law_327 hf (fun hf => ?_)
            refine r_cVi C P cf_L_105 (rm := rmX6_bath) 19 0 (fun _ _ => ⟨_, rfl⟩) rfl rfl rfl [.int (xs (v4_1 + ((1 : Int32))).toNatClampNeg), .int (xs (v4_1 + ((2 : Int32))).toNatClampNeg)] [] hf (fun _ _ h => ctX6_bath l G o_17 (xs (v4_1 + ((1 : Int32))).toNatClampNeg) (xs (v4_1 + ((2 : Int32))).toNatClampNeg) h) ⟨rfl, rfl⟩ ⟨Nat.le_of_ble_eq_true rfl, Nat.le_of_ble_eq_true rfl⟩ ⟨by show _ ≤ 601024; omega, by show _ ≤ 7293034; omega⟩ rfl rfl hl.1 (Nat.le_of_ble_eq_true rfl) dL_law_328 (fun r_18 o_19 H1 L1 P hf => ?_)
            refine r_istore C [(6, .int r_18), (5, .int r_16), (0, .ref b), (1, .ref (rA G 0 0)), (2, .ref (rA G 19 0)), (3, .ref (rA G 24 0)), (4, .int v4_1)] hl (by decide) rfl dL_law_331 (fun ls hl => ?_)
            refine r_aload_n C hl 4 rfl rfl dL_law_333 ?_
            refine r_qVi C P cf_L_95 (rm := rmX6_thrown) 19 0 (fun _ _ => ⟨_, rfl⟩) rfl rfl rfl [] [] hf (fun _ h => ctX6_thrown l G o_19 h) ⟨rfl, rfl⟩ ⟨Nat.le_of_ble_eq_true rfl, Nat.le_of_ble_eq_true rfl⟩ ⟨by show _ ≤ 601024; omega, by show _ ≤ 7293034; omega⟩ rfl rfl hl.1 (Nat.le_of_ble_eq_true rfl) dL_law_334 (fun r_20 H1 L1 P hf => ?_)
            refine r_iload C hl 1 rfl dL_law_337 ?_
            refine r_icmp_eq C dL_law_339 hf (fun hf => ?_) (fun hf => ?_)
            · refine r_iload C hl 1 rfl dL_law_344 ?_
              refine r_jn (fun k361 : Unit → Option Int32 => ∀ H1 L1 ls (cl sl : Nat), cl + n ≤ 601024 → sl + 6 * n ≤ 7293034 → Hp G o_19 s H1 L1 → lv_has ls 9 [(0, .ref b), (1, .ref (rA G 0 0)), (2, .ref (rA G 19 0)), (3, .ref (rA G 24 0)), (4, .int v4_1)] → k361 () = some 1 → W p l e room_1 s m args below meth c H1 L1 cl sl Q (F0 m 361 ls [])) hf ?_ (fun k361 j361 hf => ?_)
              · intro  H1 L1 ls cl sl hc1 hc2  P hl hf
                refine r_goto C dL_law_361 ?_
                exact j1642 o_19 _ _ _ _ _ (by omega) (by omega) P (lv_sub hl [0, 1, 2, 3, 4] rfl) hf
              refine r_if_ne C dL_law_346 hf (fun hf => ?_) (fun hf => ?_)
              · exact j361  _ _ _ _ _ (by omega) (by omega) P (lv_sub hl [2, 3, 4, 5, 6] rfl) hf
              · refine r_aload_n C hl 5 rfl rfl dL_law_349 ?_
                refine r_iconst C (v := 0) (by decide) dL_law_350 ?_
                refine w_lald C P dL_law_351 ?_
                refine r_iload C hl 0 rfl dL_law_352 ?_
                refine r_i2l C dL_law_354 ?_
                refine r_lcmp C dL_law_355 ?_
                refine r_if_eq C dL_law_356 hf (fun hf => ?_) (fun hf => ?_)
                · exact j361  _ _ _ _ _ (by omega) (by omega) P (lv_sub hl [2, 3, 4, 5, 6] rfl) hf
                · refine r_iconst C (v := 0) (by decide) dL_law_359 ?_
                  exact absurd (Option.some.inj hf) (by decide)
            · refine r_iconst C (v := 0) (by decide) dL_law_342 ?_
              exact absurd (Option.some.inj hf) (by decide)
          · refine r_ite hf (fun hc3 hf => ?_) (fun hc3 hf => ?_)
            · refine lv_tableIn C.1 C.2.1 (off := 325) (tgt := 364) dL_law_39.1 (by rw [hc3] <;> decide) (by rw [hc3] <;> decide) (by rw [hc3] <;> decide) rfl ?_
              refine r_aload_n C hl 1 rfl rfl dL_law_364 ?_
              refine r_aload_n C hl 0 rfl rfl dL_law_365 ?_
              refine r_iload C hl 4 rfl dL_law_366 ?_
              refine r_iconst C (v := 1) (by decide) dL_law_368 ?_
              refine r_iadd2 C dL_law_369 ?_
              refine w_sld C hX hbl hbA P dL_law_370 hf (fun hf => ?_)
              refine r_aload_n C hl 3 rfl rfl dL_law_371 ?_
              refine w_cS C X P cfw_106 (rm := rmL_pass) [.ref (rA G 0 0), .int (xs (v4_1 + ((1 : Int32))).toNatClampNeg), .ref (rA G 24 0)] [] hf (fun _ _ h => ctL_pass l G hl9 o_2 (xs (v4_1 + ((1 : Int32))).toNatClampNeg) h) ⟨Nat.le_of_ble_eq_true rfl, Nat.le_of_ble_eq_true rfl⟩ ⟨by show _ ≤ 601024; omega, by show _ ≤ 7293034; omega⟩ rfl rfl hl.1 (Nat.le_of_ble_eq_true rfl) dL_law_372 (fun r_21 o_22 cl sl H1 L1 hb1 hb2 P hf => ?_)
              refine r_istore C [(5, .int r_21), (0, .ref b), (1, .ref (rA G 0 0)), (2, .ref (rA G 19 0)), (3, .ref (rA G 24 0)), (4, .int v4_1)] hl (by decide) rfl dL_law_375 (fun ls hl => ?_)
              refine r_aload_n C hl 3 rfl rfl dL_law_377 ?_
              refine r_aload_n C hl 1 rfl rfl dL_law_378 ?_
              refine r_iload C hl 5 rfl dL_law_379 ?_
              refine r_iconst C (v := 1) (by decide) dL_law_381 ?_
              refine r_iadd2 C dL_law_382 ?_
              refine w_sld C hX hbl hbA P dL_law_383 hf (fun hf => ?_)
              refine r_cVi C P cf_L_108 (rm := rmX6_pass) 19 0 (fun _ _ => ⟨_, rfl⟩) rfl rfl rfl [.int (xs (v4_1 + ((1 : Int32))).toNatClampNeg)] [] hf (fun _ _ h => ctX6_pass l G o_22 (xs (v4_1 + ((1 : Int32))).toNatClampNeg) h) ⟨rfl, rfl⟩ ⟨Nat.le_of_ble_eq_true rfl, Nat.le_of_ble_eq_true rfl⟩ ⟨by show _ ≤ 601024; omega, by show _ ≤ 7293034; omega⟩ rfl rfl hl.1 (Nat.le_of_ble_eq_true rfl) dL_law_384 (fun r_23 o_24 H1 L1 P hf => ?_)
              refine r_istore C [(6, .int r_23), (5, .int r_21), (0, .ref b), (1, .ref (rA G 0 0)), (2, .ref (rA G 19 0)), (3, .ref (rA G 24 0)), (4, .int v4_1)] hl (by decide) rfl dL_law_387 (fun ls hl => ?_)
              refine r_aload_n C hl 4 rfl rfl dL_law_389 ?_
              refine r_qVi C P cf_L_95 (rm := rmX6_thrown) 19 0 (fun _ _ => ⟨_, rfl⟩) rfl rfl rfl [] [] hf (fun _ h => ctX6_thrown l G o_24 h) ⟨rfl, rfl⟩ ⟨Nat.le_of_ble_eq_true rfl, Nat.le_of_ble_eq_true rfl⟩ ⟨by show _ ≤ 601024; omega, by show _ ≤ 7293034; omega⟩ rfl rfl hl.1 (Nat.le_of_ble_eq_true rfl) dL_law_390 (fun r_25 H1 L1 P hf => ?_)
              refine r_iload C hl 1 rfl dL_law_393 ?_
              refine r_icmp_eq C dL_law_395 hf (fun hf => ?_) (fun hf => ?_)
              · refine r_iload C hl 1 rfl dL_law_400 ?_
                refine r_jn (fun k417 : Unit → Option Int32 => ∀ H1 L1 ls (cl sl : Nat), cl + n ≤ 601024 → sl + 6 * n ≤ 7293034 → Hp G o_24 s H1 L1 → lv_has ls 9 [(0, .ref b), (1, .ref (rA G 0 0)), (2, .ref (rA G 19 0)), (3, .ref (rA G 24 0)), (4, .int v4_1)] → k417 () = some 1 → W p l e room_1 s m args below meth c H1 L1 cl sl Q (F0 m 417 ls [])) hf ?_ (fun k417 j417 hf => ?_)
                · intro  H1 L1 ls cl sl hc1 hc2  P hl hf
                  refine r_goto C dL_law_417 ?_
                  exact j1642 o_24 _ _ _ _ _ (by omega) (by omega) P (lv_sub hl [0, 1, 2, 3, 4] rfl) hf
                refine r_if_ne C dL_law_402 hf (fun hf => ?_) (fun hf => ?_)
                · exact j417  _ _ _ _ _ (by omega) (by omega) P (lv_sub hl [2, 3, 4, 5, 6] rfl) hf
                · refine r_aload_n C hl 5 rfl rfl dL_law_405 ?_
                  refine r_iconst C (v := 0) (by decide) dL_law_406 ?_
                  refine w_lald C P dL_law_407 ?_
                  refine r_iload C hl 0 rfl dL_law_408 ?_
                  refine r_i2l C dL_law_410 ?_
                  refine r_lcmp C dL_law_411 ?_
                  refine r_if_eq C dL_law_412 hf (fun hf => ?_) (fun hf => ?_)
                  · exact j417  _ _ _ _ _ (by omega) (by omega) P (lv_sub hl [2, 3, 4, 5, 6] rfl) hf
                  · refine r_iconst C (v := 0) (by decide) dL_law_415 ?_
                    exact absurd (Option.some.inj hf) (by decide)
              · refine r_iconst C (v := 0) (by decide) dL_law_398 ?_
                exact absurd (Option.some.inj hf) (by decide)
            · refine r_ite hf (fun hc4 hf => ?_) (fun hc4 hf => ?_)
              · refine lv_tableIn C.1 C.2.1 (off := 381) (tgt := 420) dL_law_39.1 (by rw [hc4] <;> decide) (by rw [hc4] <;> decide) (by rw [hc4] <;> decide) rfl ?_
                refine r_aload_n C hl 1 rfl rfl dL_law_420 ?_
                refine r_aload_n C hl 0 rfl rfl dL_law_421 ?_
                refine r_iload C hl 4 rfl dL_law_422 ?_
                refine r_iconst C (v := 1) (by decide) dL_law_424 ?_
                refine r_iadd2 C dL_law_425 ?_
                refine w_sld C hX hbl hbA P dL_law_426 hf (fun hf => ?_)
                refine r_aload_n C hl 0 rfl rfl dL_law_427 ?_
                refine r_iload C hl 4 rfl dL_law_428 ?_
                refine r_iconst C (v := 2) (by decide) dL_law_430 ?_
                refine r_iadd2 C dL_law_431 ?_
                refine w_sld C hX hbl hbA P dL_law_432 hf (fun hf => ?_)
                refine r_aload_n C hl 3 rfl rfl dL_law_433 ?_
                refine w_cS C X P cfw_109 (rm := rmL_set) [.ref (rA G 0 0), .int (xs (v4_1 + ((1 : Int32))).toNatClampNeg), .int (xs (v4_1 + ((2 : Int32))).toNatClampNeg), .ref (rA G 24 0)] [] hf (fun _ _ h => ctL_set l G hl9 o_2 (xs (v4_1 + ((1 : Int32))).toNatClampNeg) (xs (v4_1 + ((2 : Int32))).toNatClampNeg) h) ⟨Nat.le_of_ble_eq_true rfl, Nat.le_of_ble_eq_true rfl⟩ ⟨by show _ ≤ 601024; omega, by show _ ≤ 7293034; omega⟩ rfl rfl hl.1 (Nat.le_of_ble_eq_true rfl) dL_law_434 (fun r_26 o_27 cl sl H1 L1 hb1 hb2 P hf => ?_)
                refine r_istore C [(5, .int r_26), (0, .ref b), (1, .ref (rA G 0 0)), (2, .ref (rA G 19 0)), (3, .ref (rA G 24 0)), (4, .int v4_1)] hl (by decide) rfl dL_law_437 (fun ls hl => ?_)
                refine r_aload_n C hl 3 rfl rfl dL_law_439 ?_
                refine r_aload_n C hl 1 rfl rfl dL_law_440 ?_
                refine r_iload C hl 5 rfl dL_law_441 ?_
                refine r_iconst C (v := 1) (by decide) dL_law_443 ?_
                refine r_iadd2 C dL_law_444 ?_
                refine w_sld C hX hbl hbA P dL_law_445 hf (fun hf => ?_)
                refine r_aload_n C hl 1 rfl rfl dL_law_446 ?_
                refine r_iload C hl 5 rfl dL_law_447 ?_
                refine r_iconst C (v := 2) (by decide) dL_law_449 ?_
                refine r_iadd2 C dL_law_450 ?_
                refine w_sld C hX hbl hbA P dL_law_451 hf (fun hf => ?_)
                refine r_cVi C P cf_L_111 (rm := rmX6_set) 19 0 (fun _ _ => ⟨_, rfl⟩) rfl rfl rfl [.int (xs (v4_1 + ((1 : Int32))).toNatClampNeg), .int (xs (v4_1 + ((2 : Int32))).toNatClampNeg)] [] hf (fun _ _ h => ctX6_set l G o_27 (xs (v4_1 + ((1 : Int32))).toNatClampNeg) (xs (v4_1 + ((2 : Int32))).toNatClampNeg) h) ⟨rfl, rfl⟩ ⟨Nat.le_of_ble_eq_true rfl, Nat.le_of_ble_eq_true rfl⟩ ⟨by show _ ≤ 601024; omega, by show _ ≤ 7293034; omega⟩ rfl rfl hl.1 (Nat.le_of_ble_eq_true rfl) dL_law_452 (fun r_28 o_29 H1 L1 P hf => ?_)
                refine r_istore C [(6, .int r_28), (5, .int r_26), (0, .ref b), (1, .ref (rA G 0 0)), (2, .ref (rA G 19 0)), (3, .ref (rA G 24 0)), (4, .int v4_1)] hl (by decide) rfl dL_law_455 (fun ls hl => ?_)
                refine r_aload_n C hl 4 rfl rfl dL_law_457 ?_
                refine r_qVi C P cf_L_95 (rm := rmX6_thrown) 19 0 (fun _ _ => ⟨_, rfl⟩) rfl rfl rfl [] [] hf (fun _ h => ctX6_thrown l G o_29 h) ⟨rfl, rfl⟩ ⟨Nat.le_of_ble_eq_true rfl, Nat.le_of_ble_eq_true rfl⟩ ⟨by show _ ≤ 601024; omega, by show _ ≤ 7293034; omega⟩ rfl rfl hl.1 (Nat.le_of_ble_eq_true rfl) dL_law_458 (fun r_30 H1 L1 P hf => ?_)
                refine r_iload C hl 1 rfl dL_law_461 ?_
                refine r_icmp_eq C dL_law_463 hf (fun hf => ?_) (fun hf => ?_)
                · refine r_iload C hl 1 rfl dL_law_468 ?_
                  refine r_jn (fun k485 : Unit → Option Int32 => ∀ H1 L1 ls (cl sl : Nat), cl + n ≤ 601024 → sl + 6 * n ≤ 7293034 → Hp G o_29 s H1 L1 → lv_has ls 9 [(0, .ref b), (1, .ref (rA G 0 0)), (2, .ref (rA G 19 0)), (3, .ref (rA G 24 0)), (4, .int v4_1)] → k485 () = some 1 → W p l e room_1 s m args below meth c H1 L1 cl sl Q (F0 m 485 ls [])) hf ?_ (fun k485 j485 hf => ?_)
                  · intro  H1 L1 ls cl sl hc1 hc2  P hl hf
                    refine r_goto C dL_law_485 ?_
                    exact j1642 o_29 _ _ _ _ _ (by omega) (by omega) P (lv_sub hl [0, 1, 2, 3, 4] rfl) hf
                  refine r_if_ne C dL_law_470 hf (fun hf => ?_) (fun hf => ?_)
                  · exact j485  _ _ _ _ _ (by omega) (by omega) P (lv_sub hl [2, 3, 4, 5, 6] rfl) hf
                  · refine r_aload_n C hl 5 rfl rfl dL_law_473 ?_
                    refine r_iconst C (v := 0) (by decide) dL_law_474 ?_
                    refine w_lald C P dL_law_475 ?_
                    refine r_iload C hl 0 rfl dL_law_476 ?_
                    refine r_i2l C dL_law_478 ?_
                    refine r_lcmp C dL_law_479 ?_
                    refine r_if_eq C dL_law_480 hf (fun hf => ?_) (fun hf => ?_)
                    · exact j485  _ _ _ _ _ (by omega) (by omega) P (lv_sub hl [2, 3, 4, 5, 6] rfl) hf
                    · refine r_iconst C (v := 0) (by decide) dL_law_483 ?_
                      exact absurd (Option.some.inj hf) (by decide)
                · refine r_iconst C (v := 0) (by decide) dL_law_466 ?_
                  exact absurd (Option.some.inj hf) (by decide)
              · refine r_ite hf (fun hc5 hf => ?_) (fun hc5 hf => ?_)
                · refine lv_tableIn C.1 C.2.1 (off := 449) (tgt := 488) dL_law_39.1 (by rw [hc5] <;> decide) (by rw [hc5] <;> decide) (by rw [hc5] <;> decide) rfl ?_
                  refine r_aload_n C hl 1 rfl rfl dL_law_488 ?_
                  refine r_aload_n C hl 0 rfl rfl dL_law_489 ?_
                  refine r_iload C hl 4 rfl dL_law_490 ?_
                  refine r_iconst C (v := 1) (by decide) dL_law_492 ?_
                  refine r_iadd2 C dL_law_493 ?_
                  refine w_sld C hX hbl hbA P dL_law_494 hf (fun hf => ?_)
                  refine r_aload_n C hl 0 rfl rfl dL_law_495 ?_
                  refine r_iload C hl 4 rfl dL_law_496 ?_
                  refine r_iconst C (v := 2) (by decide) dL_law_498 ?_
                  refine r_iadd2 C dL_law_499 ?_
                  refine w_sld C hX hbl hbA P dL_law_500 hf (fun hf => ?_)
                  refine r_aload_n C hl 3 rfl rfl dL_law_501 ?_
                  refine w_cS C X P cfw_112 (rm := rmL_measure) [.ref (rA G 0 0), .int (xs (v4_1 + ((1 : Int32))).toNatClampNeg), .int (xs (v4_1 + ((2 : Int32))).toNatClampNeg), .ref (rA G 24 0)] [] hf (fun _ _ h => ctL_measure l G hl9 o_2 (xs (v4_1 + ((1 : Int32))).toNatClampNeg) (xs (v4_1 + ((2 : Int32))).toNatClampNeg) h) ⟨Nat.le_of_ble_eq_true rfl, Nat.le_of_ble_eq_true rfl⟩ ⟨by show _ ≤ 601024; omega, by show _ ≤ 7293034; omega⟩ rfl rfl hl.1 (Nat.le_of_ble_eq_true rfl) dL_law_502 (fun r_31 o_32 cl sl H1 L1 hb1 hb2 P hf => ?_)
                  refine r_istore C [(5, .int r_31), (0, .ref b), (1, .ref (rA G 0 0)), (2, .ref (rA G 19 0)), (3, .ref (rA G 24 0)), (4, .int v4_1)] hl (by decide) rfl dL_law_505 (fun ls hl => ?_)
                  refine r_aload_n C hl 3 rfl rfl dL_law_507 ?_
                  refine r_aload_n C hl 1 rfl rfl dL_law_508 ?_
                  refine r_iload C hl 5 rfl dL_law_509 ?_
                  refine r_iconst C (v := 1) (by decide) dL_law_511 ?_
                  refine r_iadd2 C dL_law_512 ?_
                  refine w_sld C hX hbl hbA P dL_law_513 hf (fun hf => ?_)
                  refine r_aload_n C hl 1 rfl rfl dL_law_514 ?_
                  refine r_iload C hl 5 rfl dL_law_515 ?_
                  refine r_iconst C (v := 2) (by decide) dL_law_517 ?_
                  refine r_iadd2 C dL_law_518 ?_
                  refine w_sld C hX hbl hbA P dL_law_519 hf (fun hf => ?_)
                  refine r_cVi C P cf_L_114 (rm := rmX6_measure) 19 0 (fun _ _ => ⟨_, rfl⟩) rfl rfl rfl [.int (xs (v4_1 + ((1 : Int32))).toNatClampNeg), .int (xs (v4_1 + ((2 : Int32))).toNatClampNeg)] [] hf (fun _ _ h => ctX6_measure l G o_32 (xs (v4_1 + ((1 : Int32))).toNatClampNeg) (xs (v4_1 + ((2 : Int32))).toNatClampNeg) h) ⟨rfl, rfl⟩ ⟨Nat.le_of_ble_eq_true rfl, Nat.le_of_ble_eq_true rfl⟩ ⟨by show _ ≤ 601024; omega, by show _ ≤ 7293034; omega⟩ rfl rfl hl.1 (Nat.le_of_ble_eq_true rfl) dL_law_520 (fun r_33 o_34 H1 L1 P hf => ?_)
                  refine r_istore C [(6, .int r_33), (5, .int r_31), (0, .ref b), (1, .ref (rA G 0 0)), (2, .ref (rA G 19 0)), (3, .ref (rA G 24 0)), (4, .int v4_1)] hl (by decide) rfl dL_law_523 (fun ls hl => ?_)
                  refine r_aload_n C hl 4 rfl rfl dL_law_525 ?_
                  refine r_qVi C P cf_L_95 (rm := rmX6_thrown) 19 0 (fun _ _ => ⟨_, rfl⟩) rfl rfl rfl [] [] hf (fun _ h => ctX6_thrown l G o_34 h) ⟨rfl, rfl⟩ ⟨Nat.le_of_ble_eq_true rfl, Nat.le_of_ble_eq_true rfl⟩ ⟨by show _ ≤ 601024; omega, by show _ ≤ 7293034; omega⟩ rfl rfl hl.1 (Nat.le_of_ble_eq_true rfl) dL_law_526 (fun r_35 H1 L1 P hf => ?_)
                  refine r_iload C hl 1 rfl dL_law_529 ?_
                  refine r_icmp_eq C dL_law_531 hf (fun hf => ?_) (fun hf => ?_)
                  · refine r_iload C hl 1 rfl dL_law_536 ?_
                    refine r_jn (fun k553 : Unit → Option Int32 => ∀ H1 L1 ls (cl sl : Nat), cl + n ≤ 601024 → sl + 6 * n ≤ 7293034 → Hp G o_34 s H1 L1 → lv_has ls 9 [(0, .ref b), (1, .ref (rA G 0 0)), (2, .ref (rA G 19 0)), (3, .ref (rA G 24 0)), (4, .int v4_1)] → k553 () = some 1 → W p l e room_1 s m args below meth c H1 L1 cl sl Q (F0 m 553 ls [])) hf ?_ (fun k553 j553 hf => ?_)
                    · intro  H1 L1 ls cl sl hc1 hc2  P hl hf
                      refine r_goto C dL_law_553 ?_
                      exact j1642 o_34 _ _ _ _ _ (by omega) (by omega) P (lv_sub hl [0, 1, 2, 3, 4] rfl) hf
                    refine r_if_ne C dL_law_538 hf (fun hf => ?_) (fun hf => ?_)
                    · exact j553  _ _ _ _ _ (by omega) (by omega) P (lv_sub hl [2, 3, 4, 5, 6] rfl) hf
                    · refine r_aload_n C hl 5 rfl rfl dL_law_541 ?_
                      refine r_iconst C (v := 0) (by decide) dL_law_542 ?_
                      refine w_lald C P dL_law_543 ?_
                      refine r_iload C hl 0 rfl dL_law_544 ?_
                      refine r_i2l C dL_law_546 ?_
                      refine r_lcmp C dL_law_547 ?_
                      refine r_if_eq C dL_law_548 hf (fun hf => ?_) (fun hf => ?_)
                      · exact j553  _ _ _ _ _ (by omega) (by omega) P (lv_sub hl [2, 3, 4, 5, 6] rfl) hf
                      · refine r_iconst C (v := 0) (by decide) dL_law_551 ?_
                        exact absurd (Option.some.inj hf) (by decide)
                  · refine r_iconst C (v := 0) (by decide) dL_law_534 ?_
                    exact absurd (Option.some.inj hf) (by decide)
                · refine r_ite hf (fun hc6 hf => ?_) (fun hc6 hf => ?_)
                  · refine lv_tableIn C.1 C.2.1 (off := 517) (tgt := 556) dL_law_39.1 (by rw [hc6] <;> decide) (by rw [hc6] <;> decide) (by rw [hc6] <;> decide) rfl ?_
                    refine r_aload_n C hl 1 rfl rfl dL_law_556 ?_
                    refine r_aload_n C hl 0 rfl rfl dL_law_557 ?_
                    refine r_iload C hl 4 rfl dL_law_558 ?_
                    refine r_iconst C (v := 1) (by decide) dL_law_560 ?_
                    refine r_iadd2 C dL_law_561 ?_
                    refine w_sld C hX hbl hbA P dL_law_562 hf (fun hf => ?_)
                    refine r_aload_n C hl 0 rfl rfl dL_law_563 ?_
                    refine r_iload C hl 4 rfl dL_law_564 ?_
                    refine r_iconst C (v := 2) (by decide) dL_law_566 ?_
                    refine r_iadd2 C dL_law_567 ?_
                    refine w_sld C hX hbl hbA P dL_law_568 hf (fun hf => ?_)
                    refine r_aload_n C hl 3 rfl rfl dL_law_569 ?_
                    refine w_cS C X P cfw_115 (rm := rmL_forget) [.ref (rA G 0 0), .int (xs (v4_1 + ((1 : Int32))).toNatClampNeg), .int (xs (v4_1 + ((2 : Int32))).toNatClampNeg), .ref (rA G 24 0)] [] hf (fun _ _ h => ctL_forget l G hl9 o_2 (xs (v4_1 + ((1 : Int32))).toNatClampNeg) (xs (v4_1 + ((2 : Int32))).toNatClampNeg) h) ⟨Nat.le_of_ble_eq_true rfl, Nat.le_of_ble_eq_true rfl⟩ ⟨by show _ ≤ 601024; omega, by show _ ≤ 7293034; omega⟩ rfl rfl hl.1 (Nat.le_of_ble_eq_true rfl) dL_law_570 (fun r_36 o_37 cl sl H1 L1 hb1 hb2 P hf => ?_)
                    refine r_istore C [(5, .int r_36), (0, .ref b), (1, .ref (rA G 0 0)), (2, .ref (rA G 19 0)), (3, .ref (rA G 24 0)), (4, .int v4_1)] hl (by decide) rfl dL_law_573 (fun ls hl => ?_)
                    refine r_aload_n C hl 3 rfl rfl dL_law_575 ?_
                    refine r_aload_n C hl 1 rfl rfl dL_law_576 ?_
                    refine r_iload C hl 5 rfl dL_law_577 ?_
                    refine r_iconst C (v := 1) (by decide) dL_law_579 ?_
                    refine r_iadd2 C dL_law_580 ?_
                    refine w_sld C hX hbl hbA P dL_law_581 hf (fun hf => ?_)
                    refine r_aload_n C hl 1 rfl rfl dL_law_582 ?_
                    refine r_iload C hl 5 rfl dL_law_583 ?_
                    refine r_iconst C (v := 2) (by decide) dL_law_585 ?_
                    refine r_iadd2 C dL_law_586 ?_
                    refine w_sld C hX hbl hbA P dL_law_587 hf (fun hf => ?_)
                    refine r_cVi C P cf_L_117 (rm := rmX6_forget) 19 0 (fun _ _ => ⟨_, rfl⟩) rfl rfl rfl [.int (xs (v4_1 + ((1 : Int32))).toNatClampNeg), .int (xs (v4_1 + ((2 : Int32))).toNatClampNeg)] [] hf (fun _ _ h => ctX6_forget l G o_37 (xs (v4_1 + ((1 : Int32))).toNatClampNeg) (xs (v4_1 + ((2 : Int32))).toNatClampNeg) h) ⟨rfl, rfl⟩ ⟨Nat.le_of_ble_eq_true rfl, Nat.le_of_ble_eq_true rfl⟩ ⟨by show _ ≤ 601024; omega, by show _ ≤ 7293034; omega⟩ rfl rfl hl.1 (Nat.le_of_ble_eq_true rfl) dL_law_588 (fun r_38 o_39 H1 L1 P hf => ?_)
                    refine r_istore C [(6, .int r_38), (5, .int r_36), (0, .ref b), (1, .ref (rA G 0 0)), (2, .ref (rA G 19 0)), (3, .ref (rA G 24 0)), (4, .int v4_1)] hl (by decide) rfl dL_law_591 (fun ls hl => ?_)
                    refine r_aload_n C hl 4 rfl rfl dL_law_593 ?_
                    refine r_qVi C P cf_L_95 (rm := rmX6_thrown) 19 0 (fun _ _ => ⟨_, rfl⟩) rfl rfl rfl [] [] hf (fun _ h => ctX6_thrown l G o_39 h) ⟨rfl, rfl⟩ ⟨Nat.le_of_ble_eq_true rfl, Nat.le_of_ble_eq_true rfl⟩ ⟨by show _ ≤ 601024; omega, by show _ ≤ 7293034; omega⟩ rfl rfl hl.1 (Nat.le_of_ble_eq_true rfl) dL_law_594 (fun r_40 H1 L1 P hf => ?_)
                    refine r_iload C hl 1 rfl dL_law_597 ?_
                    refine r_icmp_eq C dL_law_599 hf (fun hf => ?_) (fun hf => ?_)
                    · refine r_iload C hl 1 rfl dL_law_604 ?_
                      refine r_jn (fun k621 : Unit → Option Int32 => ∀ H1 L1 ls (cl sl : Nat), cl + n ≤ 601024 → sl + 6 * n ≤ 7293034 → Hp G o_39 s H1 L1 → lv_has ls 9 [(0, .ref b), (1, .ref (rA G 0 0)), (2, .ref (rA G 19 0)), (3, .ref (rA G 24 0)), (4, .int v4_1)] → k621 () = some 1 → W p l e room_1 s m args below meth c H1 L1 cl sl Q (F0 m 621 ls [])) hf ?_ (fun k621 j621 hf => ?_)
                      · intro  H1 L1 ls cl sl hc1 hc2  P hl hf
                        refine r_goto C dL_law_621 ?_
                        exact j1642 o_39 _ _ _ _ _ (by omega) (by omega) P (lv_sub hl [0, 1, 2, 3, 4] rfl) hf
                      refine r_if_ne C dL_law_606 hf (fun hf => ?_) (fun hf => ?_)
                      · exact j621  _ _ _ _ _ (by omega) (by omega) P (lv_sub hl [2, 3, 4, 5, 6] rfl) hf
                      · refine r_aload_n C hl 5 rfl rfl dL_law_609 ?_
                        refine r_iconst C (v := 0) (by decide) dL_law_610 ?_
                        refine w_lald C P dL_law_611 ?_
                        refine r_iload C hl 0 rfl dL_law_612 ?_
                        refine r_i2l C dL_law_614 ?_
                        refine r_lcmp C dL_law_615 ?_
                        refine r_if_eq C dL_law_616 hf (fun hf => ?_) (fun hf => ?_)
                        · exact j621  _ _ _ _ _ (by omega) (by omega) P (lv_sub hl [2, 3, 4, 5, 6] rfl) hf
                        · refine r_iconst C (v := 0) (by decide) dL_law_619 ?_
                          exact absurd (Option.some.inj hf) (by decide)
                    · refine r_iconst C (v := 0) (by decide) dL_law_602 ?_
                      exact absurd (Option.some.inj hf) (by decide)
                  · refine r_ite hf (fun hc7 hf => ?_) (fun hc7 hf => ?_)
                    · refine lv_tableIn C.1 C.2.1 (off := 585) (tgt := 624) dL_law_39.1 (by rw [hc7] <;> decide) (by rw [hc7] <;> decide) (by rw [hc7] <;> decide) rfl ?_
                      refine r_aload_n C hl 1 rfl rfl dL_law_624 ?_
                      refine r_aload_n C hl 0 rfl rfl dL_law_625 ?_
                      refine r_iload C hl 4 rfl dL_law_626 ?_
                      refine r_iconst C (v := 1) (by decide) dL_law_628 ?_
                      refine r_iadd2 C dL_law_629 ?_
                      refine w_sld C hX hbl hbA P dL_law_630 hf (fun hf => ?_)
                      refine r_aload_n C hl 3 rfl rfl dL_law_631 ?_
                      refine w_cS C X P cfw_118 (rm := rmL_paper) [.ref (rA G 0 0), .int (xs (v4_1 + ((1 : Int32))).toNatClampNeg), .ref (rA G 24 0)] [] hf (fun _ _ h => ctL_paper l G hl9 o_2 (xs (v4_1 + ((1 : Int32))).toNatClampNeg) h) ⟨Nat.le_of_ble_eq_true rfl, Nat.le_of_ble_eq_true rfl⟩ ⟨by show _ ≤ 601024; omega, by show _ ≤ 7293034; omega⟩ rfl rfl hl.1 (Nat.le_of_ble_eq_true rfl) dL_law_632 (fun r_41 o_42 cl sl H1 L1 hb1 hb2 P hf => ?_)
                      refine r_istore C [(5, .int r_41), (0, .ref b), (1, .ref (rA G 0 0)), (2, .ref (rA G 19 0)), (3, .ref (rA G 24 0)), (4, .int v4_1)] hl (by decide) rfl dL_law_635 (fun ls hl => ?_)
                      refine r_aload_n C hl 3 rfl rfl dL_law_637 ?_
                      refine r_aload_n C hl 1 rfl rfl dL_law_638 ?_
                      refine r_iload C hl 5 rfl dL_law_639 ?_
                      refine r_iconst C (v := 1) (by decide) dL_law_641 ?_
                      refine r_iadd2 C dL_law_642 ?_
                      refine w_sld C hX hbl hbA P dL_law_643 hf (fun hf => ?_)
                      refine r_cVi C P cf_L_120 (rm := rmX6_paper) 19 0 (fun _ _ => ⟨_, rfl⟩) rfl rfl rfl [.int (xs (v4_1 + ((1 : Int32))).toNatClampNeg)] [] hf (fun _ _ h => ctX6_paper l G o_42 (xs (v4_1 + ((1 : Int32))).toNatClampNeg) h) ⟨rfl, rfl⟩ ⟨Nat.le_of_ble_eq_true rfl, Nat.le_of_ble_eq_true rfl⟩ ⟨by show _ ≤ 601024; omega, by show _ ≤ 7293034; omega⟩ rfl rfl hl.1 (Nat.le_of_ble_eq_true rfl) dL_law_644 (fun r_43 o_44 H1 L1 P hf => ?_)
                      refine r_istore C [(6, .int r_43), (5, .int r_41), (0, .ref b), (1, .ref (rA G 0 0)), (2, .ref (rA G 19 0)), (3, .ref (rA G 24 0)), (4, .int v4_1)] hl (by decide) rfl dL_law_647 (fun ls hl => ?_)
                      refine r_aload_n C hl 4 rfl rfl dL_law_649 ?_
                      refine r_qVi C P cf_L_95 (rm := rmX6_thrown) 19 0 (fun _ _ => ⟨_, rfl⟩) rfl rfl rfl [] [] hf (fun _ h => ctX6_thrown l G o_44 h) ⟨rfl, rfl⟩ ⟨Nat.le_of_ble_eq_true rfl, Nat.le_of_ble_eq_true rfl⟩ ⟨by show _ ≤ 601024; omega, by show _ ≤ 7293034; omega⟩ rfl rfl hl.1 (Nat.le_of_ble_eq_true rfl) dL_law_650 (fun r_45 H1 L1 P hf => ?_)
                      refine r_iload C hl 1 rfl dL_law_653 ?_
                      refine r_icmp_eq C dL_law_655 hf (fun hf => ?_) (fun hf => ?_)
                      · refine r_iload C hl 1 rfl dL_law_660 ?_
                        refine r_jn (fun k677 : Unit → Option Int32 => ∀ H1 L1 ls (cl sl : Nat), cl + n ≤ 601024 → sl + 6 * n ≤ 7293034 → Hp G o_44 s H1 L1 → lv_has ls 9 [(0, .ref b), (1, .ref (rA G 0 0)), (2, .ref (rA G 19 0)), (3, .ref (rA G 24 0)), (4, .int v4_1)] → k677 () = some 1 → W p l e room_1 s m args below meth c H1 L1 cl sl Q (F0 m 677 ls [])) hf ?_ (fun k677 j677 hf => ?_)
                        · intro  H1 L1 ls cl sl hc1 hc2  P hl hf
                          refine r_goto C dL_law_677 ?_
                          exact j1642 o_44 _ _ _ _ _ (by omega) (by omega) P (lv_sub hl [0, 1, 2, 3, 4] rfl) hf
                        refine r_if_ne C dL_law_662 hf (fun hf => ?_) (fun hf => ?_)
                        · exact j677  _ _ _ _ _ (by omega) (by omega) P (lv_sub hl [2, 3, 4, 5, 6] rfl) hf
                        · refine r_aload_n C hl 5 rfl rfl dL_law_665 ?_
                          refine r_iconst C (v := 0) (by decide) dL_law_666 ?_
                          refine w_lald C P dL_law_667 ?_
                          refine r_iload C hl 0 rfl dL_law_668 ?_
                          refine r_i2l C dL_law_670 ?_
                          refine r_lcmp C dL_law_671 ?_
                          refine r_if_eq C dL_law_672 hf (fun hf => ?_) (fun hf => ?_)
                          · exact j677  _ _ _ _ _ (by omega) (by omega) P (lv_sub hl [2, 3, 4, 5, 6] rfl) hf
                          · refine r_iconst C (v := 0) (by decide) dL_law_675 ?_
                            exact absurd (Option.some.inj hf) (by decide)
                      · refine r_iconst C (v := 0) (by decide) dL_law_658 ?_
                        exact absurd (Option.some.inj hf) (by decide)
                    · refine r_ite hf (fun hc8 hf => ?_) (fun hc8 hf => ?_)
                      · refine lv_tableIn C.1 C.2.1 (off := 641) (tgt := 680) dL_law_39.1 (by rw [hc8] <;> decide) (by rw [hc8] <;> decide) (by rw [hc8] <;> decide) rfl ?_
                        refine r_aload_n C hl 1 rfl rfl dL_law_680 ?_
                        refine r_aload_n C hl 0 rfl rfl dL_law_681 ?_
                        refine r_iload C hl 4 rfl dL_law_682 ?_
                        refine r_iconst C (v := 1) (by decide) dL_law_684 ?_
                        refine r_iadd2 C dL_law_685 ?_
                        refine w_sld C hX hbl hbA P dL_law_686 hf (fun hf => ?_)
                        refine r_aload_n C hl 3 rfl rfl dL_law_687 ?_
                        refine w_cS C X P cfw_121 (rm := rmL_append) [.ref (rA G 0 0), .int (xs (v4_1 + ((1 : Int32))).toNatClampNeg), .ref (rA G 24 0)] [] hf (fun _ _ h => ctL_append l G hl9 o_2 (xs (v4_1 + ((1 : Int32))).toNatClampNeg) h) ⟨Nat.le_of_ble_eq_true rfl, Nat.le_of_ble_eq_true rfl⟩ ⟨by show _ ≤ 601024; omega, by show _ ≤ 7293034; omega⟩ rfl rfl hl.1 (Nat.le_of_ble_eq_true rfl) dL_law_688 (fun r_46 o_47 cl sl H1 L1 hb1 hb2 P hf => ?_)
                        refine r_istore C [(5, .int r_46), (0, .ref b), (1, .ref (rA G 0 0)), (2, .ref (rA G 19 0)), (3, .ref (rA G 24 0)), (4, .int v4_1)] hl (by decide) rfl dL_law_691 (fun ls hl => ?_)
                        refine r_aload_n C hl 3 rfl rfl dL_law_693 ?_
                        refine r_aload_n C hl 1 rfl rfl dL_law_694 ?_
                        refine r_iload C hl 5 rfl dL_law_695 ?_
                        refine r_iconst C (v := 1) (by decide) dL_law_697 ?_
                        refine r_iadd2 C dL_law_698 ?_
                        refine w_sld C hX hbl hbA P dL_law_699 hf (fun hf => ?_)
                        refine r_cVi C P cf_L_123 (rm := rmX6_append) 19 0 (fun _ _ => ⟨_, rfl⟩) rfl rfl rfl [.int (xs (v4_1 + ((1 : Int32))).toNatClampNeg)] [] hf (fun _ _ h => ctX6_append l G o_47 (xs (v4_1 + ((1 : Int32))).toNatClampNeg) h) ⟨rfl, rfl⟩ ⟨Nat.le_of_ble_eq_true rfl, Nat.le_of_ble_eq_true rfl⟩ ⟨by show _ ≤ 601024; omega, by show _ ≤ 7293034; omega⟩ rfl rfl hl.1 (Nat.le_of_ble_eq_true rfl) dL_law_700 (fun r_48 o_49 H1 L1 P hf => ?_)
                        refine r_istore C [(6, .int r_48), (5, .int r_46), (0, .ref b), (1, .ref (rA G 0 0)), (2, .ref (rA G 19 0)), (3, .ref (rA G 24 0)), (4, .int v4_1)] hl (by decide) rfl dL_law_703 (fun ls hl => ?_)
                        refine r_aload_n C hl 4 rfl rfl dL_law_705 ?_
                        refine r_qVi C P cf_L_95 (rm := rmX6_thrown) 19 0 (fun _ _ => ⟨_, rfl⟩) rfl rfl rfl [] [] hf (fun _ h => ctX6_thrown l G o_49 h) ⟨rfl, rfl⟩ ⟨Nat.le_of_ble_eq_true rfl, Nat.le_of_ble_eq_true rfl⟩ ⟨by show _ ≤ 601024; omega, by show _ ≤ 7293034; omega⟩ rfl rfl hl.1 (Nat.le_of_ble_eq_true rfl) dL_law_706 (fun r_50 H1 L1 P hf => ?_)
                        refine r_iload C hl 1 rfl dL_law_709 ?_
                        refine r_icmp_eq C dL_law_711 hf (fun hf => ?_) (fun hf => ?_)
                        · refine r_iload C hl 1 rfl dL_law_716 ?_
                          refine r_jn (fun k733 : Unit → Option Int32 => ∀ H1 L1 ls (cl sl : Nat), cl + n ≤ 601024 → sl + 6 * n ≤ 7293034 → Hp G o_49 s H1 L1 → lv_has ls 9 [(0, .ref b), (1, .ref (rA G 0 0)), (2, .ref (rA G 19 0)), (3, .ref (rA G 24 0)), (4, .int v4_1)] → k733 () = some 1 → W p l e room_1 s m args below meth c H1 L1 cl sl Q (F0 m 733 ls [])) hf ?_ (fun k733 j733 hf => ?_)
                          · intro  H1 L1 ls cl sl hc1 hc2  P hl hf
                            refine r_goto C dL_law_733 ?_
                            exact j1642 o_49 _ _ _ _ _ (by omega) (by omega) P (lv_sub hl [0, 1, 2, 3, 4] rfl) hf
                          refine r_if_ne C dL_law_718 hf (fun hf => ?_) (fun hf => ?_)
                          · exact j733  _ _ _ _ _ (by omega) (by omega) P (lv_sub hl [2, 3, 4, 5, 6] rfl) hf
                          · refine r_aload_n C hl 5 rfl rfl dL_law_721 ?_
                            refine r_iconst C (v := 0) (by decide) dL_law_722 ?_
                            refine w_lald C P dL_law_723 ?_
                            refine r_iload C hl 0 rfl dL_law_724 ?_
                            refine r_i2l C dL_law_726 ?_
                            refine r_lcmp C dL_law_727 ?_
                            refine r_if_eq C dL_law_728 hf (fun hf => ?_) (fun hf => ?_)
                            · exact j733  _ _ _ _ _ (by omega) (by omega) P (lv_sub hl [2, 3, 4, 5, 6] rfl) hf
                            · refine r_iconst C (v := 0) (by decide) dL_law_731 ?_
                              exact absurd (Option.some.inj hf) (by decide)
                        · refine r_iconst C (v := 0) (by decide) dL_law_714 ?_
                          exact absurd (Option.some.inj hf) (by decide)
                      · refine r_ite hf (fun hc9 hf => ?_) (fun hc9 hf => ?_)
                        · refine lv_tableIn C.1 C.2.1 (off := 697) (tgt := 736) dL_law_39.1 (by rw [hc9] <;> decide) (by rw [hc9] <;> decide) (by rw [hc9] <;> decide) rfl ?_
                          refine r_aload_n C hl 1 rfl rfl dL_law_736 ?_
                          refine r_cVi C P cf_L_124 (rm := rmX5_clearBuffer) 0 0 (fun _ _ => ⟨_, rfl⟩) rfl rfl rfl [] [] hf (fun _ _ h => ctX5_clearBuffer l G o_2 h) ⟨rfl, rfl⟩ ⟨Nat.le_of_ble_eq_true rfl, Nat.le_of_ble_eq_true rfl⟩ ⟨by show _ ≤ 601024; omega, by show _ ≤ 7293034; omega⟩ rfl rfl hl.1 (Nat.le_of_ble_eq_true rfl) dL_law_737 (fun r_51 o_52 H1 L1 P hf => ?_)
                          refine r_aload_n C hl 2 rfl rfl dL_law_740 ?_
                          refine r_cVi C P cf_L_127 (rm := rmX6_clearBuffer) 19 0 (fun _ _ => ⟨_, rfl⟩) rfl rfl rfl [] [.int r_51] hf (fun _ _ h => ctX6_clearBuffer l G o_52 h) ⟨rfl, rfl⟩ ⟨Nat.le_of_ble_eq_true rfl, Nat.le_of_ble_eq_true rfl⟩ ⟨by show _ ≤ 601024; omega, by show _ ≤ 7293034; omega⟩ rfl rfl hl.1 (Nat.le_of_ble_eq_true rfl) dL_law_741 (fun r_53 o_54 H1 L1 P hf => ?_)
                          refine r_icmp_eq C dL_law_744 hf (fun hf => ?_) (fun hf => ?_)
                          · exact j1642 o_54 _ _ _ _ _ (by omega) (by omega) P (lv_sub hl [0, 1, 2, 3, 4] rfl) hf
                          · refine r_iconst C (v := 0) (by decide) dL_law_747 ?_
                            exact absurd (Option.some.inj hf) (by decide)
                        · refine r_ite hf (fun hc10 hf => ?_) (fun hc10 hf => ?_)
                          · refine lv_tableIn C.1 C.2.1 (off := 710) (tgt := 749) dL_law_39.1 (by rw [hc10] <;> decide) (by rw [hc10] <;> decide) (by rw [hc10] <;> decide) rfl ?_
                            refine r_aload_n C hl 1 rfl rfl dL_law_749 ?_
                            refine r_cVi C P cf_L_128 (rm := rmX5_firstError) 0 0 (fun _ _ => ⟨_, rfl⟩) rfl rfl rfl [] [] hf (fun _ _ h => ctX5_firstError l G o_2 h) ⟨rfl, rfl⟩ ⟨Nat.le_of_ble_eq_true rfl, Nat.le_of_ble_eq_true rfl⟩ ⟨by show _ ≤ 601024; omega, by show _ ≤ 7293034; omega⟩ rfl rfl hl.1 (Nat.le_of_ble_eq_true rfl) dL_law_750 (fun r_55 o_56 H1 L1 P hf => ?_)
                            refine r_aload_n C hl 2 rfl rfl dL_law_753 ?_
                            refine r_cVi C P cf_L_131 (rm := rmX6_firstError) 19 0 (fun _ _ => ⟨_, rfl⟩) rfl rfl rfl [] [.int r_55] hf (fun _ _ h => ctX6_firstError l G o_56 h) ⟨rfl, rfl⟩ ⟨Nat.le_of_ble_eq_true rfl, Nat.le_of_ble_eq_true rfl⟩ ⟨by show _ ≤ 601024; omega, by show _ ≤ 7293034; omega⟩ rfl rfl hl.1 (Nat.le_of_ble_eq_true rfl) dL_law_754 (fun r_57 o_58 H1 L1 P hf => ?_)
                            refine r_icmp_eq C dL_law_757 hf (fun hf => ?_) (fun hf => ?_)
                            · exact j1642 o_58 _ _ _ _ _ (by omega) (by omega) P (lv_sub hl [0, 1, 2, 3, 4] rfl) hf
                            · refine r_iconst C (v := 0) (by decide) dL_law_760 ?_
                              exact absurd (Option.some.inj hf) (by decide)
                          · refine r_ite hf (fun hc11 hf => ?_) (fun hc11 hf => ?_)
                            · refine lv_tableIn C.1 C.2.1 (off := 723) (tgt := 762) dL_law_39.1 (by rw [hc11] <;> decide) (by rw [hc11] <;> decide) (by rw [hc11] <;> decide) rfl ?_
                              refine r_aload_n C hl 1 rfl rfl dL_law_762 ?_
                              refine r_aload_n C hl 3 rfl rfl dL_law_763 ?_
                              refine w_cS C X P cfw_132 (rm := rmL_work) [.ref (rA G 0 0), .ref (rA G 24 0)] [] hf (fun _ _ h => ctL_work l G hl9 o_2 h) ⟨Nat.le_of_ble_eq_true rfl, Nat.le_of_ble_eq_true rfl⟩ ⟨by show _ ≤ 601024; omega, by show _ ≤ 7293034; omega⟩ rfl rfl hl.1 (Nat.le_of_ble_eq_true rfl) dL_law_764 (fun r_59 o_60 cl sl H1 L1 hb1 hb2 P hf => ?_)
                              refine r_istore C [(5, .int r_59), (0, .ref b), (1, .ref (rA G 0 0)), (2, .ref (rA G 19 0)), (3, .ref (rA G 24 0)), (4, .int v4_1)] hl (by decide) rfl dL_law_767 (fun ls hl => ?_)
                              refine r_aload_n C hl 3 rfl rfl dL_law_769 ?_
                              refine r_cVi C P cf_L_135 (rm := rmX6_work) 19 0 (fun _ _ => ⟨_, rfl⟩) rfl rfl rfl [] [] hf (fun _ _ h => ctX6_work l G o_60 h) ⟨rfl, rfl⟩ ⟨Nat.le_of_ble_eq_true rfl, Nat.le_of_ble_eq_true rfl⟩ ⟨by show _ ≤ 601024; omega, by show _ ≤ 7293034; omega⟩ rfl rfl hl.1 (Nat.le_of_ble_eq_true rfl) dL_law_770 (fun r_61 o_62 H1 L1 P hf => ?_)
                              refine r_istore C [(6, .int r_61), (5, .int r_59), (0, .ref b), (1, .ref (rA G 0 0)), (2, .ref (rA G 19 0)), (3, .ref (rA G 24 0)), (4, .int v4_1)] hl (by decide) rfl dL_law_773 (fun ls hl => ?_)
                              refine r_aload_n C hl 4 rfl rfl dL_law_775 ?_
                              refine r_qVi C P cf_L_95 (rm := rmX6_thrown) 19 0 (fun _ _ => ⟨_, rfl⟩) rfl rfl rfl [] [] hf (fun _ h => ctX6_thrown l G o_62 h) ⟨rfl, rfl⟩ ⟨Nat.le_of_ble_eq_true rfl, Nat.le_of_ble_eq_true rfl⟩ ⟨by show _ ≤ 601024; omega, by show _ ≤ 7293034; omega⟩ rfl rfl hl.1 (Nat.le_of_ble_eq_true rfl) dL_law_776 (fun r_63 H1 L1 P hf => ?_)
                              refine r_iload C hl 1 rfl dL_law_779 ?_
                              refine r_icmp_eq C dL_law_781 hf (fun hf => ?_) (fun hf => ?_)
                              · refine r_iload C hl 1 rfl dL_law_786 ?_
                                refine r_jn (fun k803 : Unit → Option Int32 => ∀ H1 L1 ls (cl sl : Nat), cl + n ≤ 601024 → sl + 6 * n ≤ 7293034 → Hp G o_62 s H1 L1 → lv_has ls 9 [(0, .ref b), (1, .ref (rA G 0 0)), (2, .ref (rA G 19 0)), (3, .ref (rA G 24 0)), (4, .int v4_1)] → k803 () = some 1 → W p l e room_1 s m args below meth c H1 L1 cl sl Q (F0 m 803 ls [])) hf ?_ (fun k803 j803 hf => ?_)
                                · intro  H1 L1 ls cl sl hc1 hc2  P hl hf
                                  refine r_goto C dL_law_803 ?_
                                  exact j1642 o_62 _ _ _ _ _ (by omega) (by omega) P (lv_sub hl [0, 1, 2, 3, 4] rfl) hf
                                refine r_if_ne C dL_law_788 hf (fun hf => ?_) (fun hf => ?_)
                                · exact j803  _ _ _ _ _ (by omega) (by omega) P (lv_sub hl [2, 3, 4, 5, 6] rfl) hf
                                · refine r_aload_n C hl 5 rfl rfl dL_law_791 ?_
                                  refine r_iconst C (v := 0) (by decide) dL_law_792 ?_
                                  refine w_lald C P dL_law_793 ?_
                                  refine r_iload C hl 0 rfl dL_law_794 ?_
                                  refine r_i2l C dL_law_796 ?_
                                  refine r_lcmp C dL_law_797 ?_
                                  refine r_if_eq C dL_law_798 hf (fun hf => ?_) (fun hf => ?_)
                                  · exact j803  _ _ _ _ _ (by omega) (by omega) P (lv_sub hl [2, 3, 4, 5, 6] rfl) hf
                                  · refine r_iconst C (v := 0) (by decide) dL_law_801 ?_
                                    exact absurd (Option.some.inj hf) (by decide)
                              · refine r_iconst C (v := 0) (by decide) dL_law_784 ?_
                                exact absurd (Option.some.inj hf) (by decide)
                            · refine r_ite hf (fun hc12 hf => ?_) (fun hc12 hf => ?_)
                              · refine lv_tableIn C.1 C.2.1 (off := 767) (tgt := 806) dL_law_39.1 (by rw [hc12] <;> decide) (by rw [hc12] <;> decide) (by rw [hc12] <;> decide) rfl ?_
                                refine r_aload_n C hl 1 rfl rfl dL_law_806 ?_
                                refine r_aload_n C hl 0 rfl rfl dL_law_807 ?_
                                refine r_iload C hl 4 rfl dL_law_808 ?_
                                refine r_iconst C (v := 1) (by decide) dL_law_810 ?_
                                refine r_iadd2 C dL_law_811 ?_
                                refine w_sld C hX hbl hbA P dL_law_812 hf (fun hf => ?_)
                                refine r_aload_n C hl 3 rfl rfl dL_law_813 ?_
                                refine w_cS C X P cfw_136 (rm := rmL_stopped) [.ref (rA G 0 0), .int (xs (v4_1 + ((1 : Int32))).toNatClampNeg), .ref (rA G 24 0)] [] hf (fun _ _ h => ctL_stopped l G hl9 o_2 (xs (v4_1 + ((1 : Int32))).toNatClampNeg) h) ⟨Nat.le_of_ble_eq_true rfl, Nat.le_of_ble_eq_true rfl⟩ ⟨by show _ ≤ 601024; omega, by show _ ≤ 7293034; omega⟩ rfl rfl hl.1 (Nat.le_of_ble_eq_true rfl) dL_law_814 (fun r_64 o_65 cl sl H1 L1 hb1 hb2 P hf => ?_)
                                refine r_istore C [(5, .int r_64), (0, .ref b), (1, .ref (rA G 0 0)), (2, .ref (rA G 19 0)), (3, .ref (rA G 24 0)), (4, .int v4_1)] hl (by decide) rfl dL_law_817 (fun ls hl => ?_)
                                refine r_aload_n C hl 3 rfl rfl dL_law_819 ?_
                                refine r_aload_n C hl 1 rfl rfl dL_law_820 ?_
                                refine r_iload C hl 5 rfl dL_law_821 ?_
                                refine r_iconst C (v := 1) (by decide) dL_law_823 ?_
                                refine r_iadd2 C dL_law_824 ?_
                                refine w_sld C hX hbl hbA P dL_law_825 hf (fun hf => ?_)
                                refine r_cVi C P cf_L_138 (rm := rmX6_stopped) 19 0 (fun _ _ => ⟨_, rfl⟩) rfl rfl rfl [.int (xs (v4_1 + ((1 : Int32))).toNatClampNeg)] [] hf (fun _ _ h => ctX6_stopped l G o_65 (xs (v4_1 + ((1 : Int32))).toNatClampNeg) h) ⟨rfl, rfl⟩ ⟨Nat.le_of_ble_eq_true rfl, Nat.le_of_ble_eq_true rfl⟩ ⟨by show _ ≤ 601024; omega, by show _ ≤ 7293034; omega⟩ rfl rfl hl.1 (Nat.le_of_ble_eq_true rfl) dL_law_826 (fun r_66 o_67 H1 L1 P hf => ?_)
                                refine r_istore C [(6, .int r_66), (5, .int r_64), (0, .ref b), (1, .ref (rA G 0 0)), (2, .ref (rA G 19 0)), (3, .ref (rA G 24 0)), (4, .int v4_1)] hl (by decide) rfl dL_law_829 (fun ls hl => ?_)
                                refine r_aload_n C hl 4 rfl rfl dL_law_831 ?_
                                refine r_qVi C P cf_L_95 (rm := rmX6_thrown) 19 0 (fun _ _ => ⟨_, rfl⟩) rfl rfl rfl [] [] hf (fun _ h => ctX6_thrown l G o_67 h) ⟨rfl, rfl⟩ ⟨Nat.le_of_ble_eq_true rfl, Nat.le_of_ble_eq_true rfl⟩ ⟨by show _ ≤ 601024; omega, by show _ ≤ 7293034; omega⟩ rfl rfl hl.1 (Nat.le_of_ble_eq_true rfl) dL_law_832 (fun r_68 H1 L1 P hf => ?_)
                                refine r_iload C hl 1 rfl dL_law_835 ?_
                                refine r_icmp_eq C dL_law_837 hf (fun hf => ?_) (fun hf => ?_)
                                · refine r_iload C hl 1 rfl dL_law_842 ?_
                                  refine r_jn (fun k859 : Unit → Option Int32 => ∀ H1 L1 ls (cl sl : Nat), cl + n ≤ 601024 → sl + 6 * n ≤ 7293034 → Hp G o_67 s H1 L1 → lv_has ls 9 [(0, .ref b), (1, .ref (rA G 0 0)), (2, .ref (rA G 19 0)), (3, .ref (rA G 24 0)), (4, .int v4_1)] → k859 () = some 1 → W p l e room_1 s m args below meth c H1 L1 cl sl Q (F0 m 859 ls [])) hf ?_ (fun k859 j859 hf => ?_)
                                  · intro  H1 L1 ls cl sl hc1 hc2  P hl hf
                                    refine r_goto C dL_law_859 ?_
                                    exact j1642 o_67 _ _ _ _ _ (by omega) (by omega) P (lv_sub hl [0, 1, 2, 3, 4] rfl) hf
                                  refine r_if_ne C dL_law_844 hf (fun hf => ?_) (fun hf => ?_)
                                  · exact j859  _ _ _ _ _ (by omega) (by omega) P (lv_sub hl [2, 3, 4, 5, 6] rfl) hf
                                  · refine r_aload_n C hl 5 rfl rfl dL_law_847 ?_
                                    refine r_iconst C (v := 0) (by decide) dL_law_848 ?_
                                    refine w_lald C P dL_law_849 ?_
                                    refine r_iload C hl 0 rfl dL_law_850 ?_
                                    refine r_i2l C dL_law_852 ?_
                                    refine r_lcmp C dL_law_853 ?_
                                    refine r_if_eq C dL_law_854 hf (fun hf => ?_) (fun hf => ?_)
                                    · exact j859  _ _ _ _ _ (by omega) (by omega) P (lv_sub hl [2, 3, 4, 5, 6] rfl) hf
                                    · refine r_iconst C (v := 0) (by decide) dL_law_857 ?_
                                      exact absurd (Option.some.inj hf) (by decide)
                                · refine r_iconst C (v := 0) (by decide) dL_law_840 ?_
                                  exact absurd (Option.some.inj hf) (by decide)
                              · refine r_ite hf (fun hc13 hf => ?_) (fun hc13 hf => ?_)
                                · refine lv_tableIn C.1 C.2.1 (off := 823) (tgt := 862) dL_law_39.1 (by rw [hc13] <;> decide) (by rw [hc13] <;> decide) (by rw [hc13] <;> decide) rfl ?_
                                  refine r_aload_n C hl 1 rfl rfl dL_law_862 ?_
                                  refine r_aload_n C hl 3 rfl rfl dL_law_863 ?_
                                  refine w_cS C X P cfw_139 (rm := rmL_undo) [.ref (rA G 0 0), .ref (rA G 24 0)] [] hf (fun _ _ h => ctL_undo l G hl9 o_2 h) ⟨Nat.le_of_ble_eq_true rfl, Nat.le_of_ble_eq_true rfl⟩ ⟨by show _ ≤ 601024; omega, by show _ ≤ 7293034; omega⟩ rfl rfl hl.1 (Nat.le_of_ble_eq_true rfl) dL_law_864 (fun r_69 o_70 cl sl H1 L1 hb1 hb2 P hf => ?_)
                                  refine r_istore C [(5, .int r_69), (0, .ref b), (1, .ref (rA G 0 0)), (2, .ref (rA G 19 0)), (3, .ref (rA G 24 0)), (4, .int v4_1)] hl (by decide) rfl dL_law_867 (fun ls hl => ?_)
                                  refine r_aload_n C hl 3 rfl rfl dL_law_869 ?_
                                  refine r_cVi C P cf_L_141 (rm := rmX6_undo) 19 0 (fun _ _ => ⟨_, rfl⟩) rfl rfl rfl [] [] hf (fun _ _ h => ctX6_undo l G o_70 h) ⟨rfl, rfl⟩ ⟨Nat.le_of_ble_eq_true rfl, Nat.le_of_ble_eq_true rfl⟩ ⟨by show _ ≤ 601024; omega, by show _ ≤ 7293034; omega⟩ rfl rfl hl.1 (Nat.le_of_ble_eq_true rfl) dL_law_870 (fun r_71 o_72 H1 L1 P hf => ?_)
                                  refine r_istore C [(6, .int r_71), (5, .int r_69), (0, .ref b), (1, .ref (rA G 0 0)), (2, .ref (rA G 19 0)), (3, .ref (rA G 24 0)), (4, .int v4_1)] hl (by decide) rfl dL_law_873 (fun ls hl => ?_)
                                  refine r_aload_n C hl 4 rfl rfl dL_law_875 ?_
                                  refine r_qVi C P cf_L_95 (rm := rmX6_thrown) 19 0 (fun _ _ => ⟨_, rfl⟩) rfl rfl rfl [] [] hf (fun _ h => ctX6_thrown l G o_72 h) ⟨rfl, rfl⟩ ⟨Nat.le_of_ble_eq_true rfl, Nat.le_of_ble_eq_true rfl⟩ ⟨by show _ ≤ 601024; omega, by show _ ≤ 7293034; omega⟩ rfl rfl hl.1 (Nat.le_of_ble_eq_true rfl) dL_law_876 (fun r_73 H1 L1 P hf => ?_)
                                  refine r_iload C hl 1 rfl dL_law_879 ?_
                                  refine r_icmp_eq C dL_law_881 hf (fun hf => ?_) (fun hf => ?_)
                                  · refine r_iload C hl 1 rfl dL_law_886 ?_
                                    refine r_jn (fun k903 : Unit → Option Int32 => ∀ H1 L1 ls (cl sl : Nat), cl + n ≤ 601024 → sl + 6 * n ≤ 7293034 → Hp G o_72 s H1 L1 → lv_has ls 9 [(0, .ref b), (1, .ref (rA G 0 0)), (2, .ref (rA G 19 0)), (3, .ref (rA G 24 0)), (4, .int v4_1)] → k903 () = some 1 → W p l e room_1 s m args below meth c H1 L1 cl sl Q (F0 m 903 ls [])) hf ?_ (fun k903 j903 hf => ?_)
                                    · intro  H1 L1 ls cl sl hc1 hc2  P hl hf
                                      refine r_goto C dL_law_903 ?_
                                      exact j1642 o_72 _ _ _ _ _ (by omega) (by omega) P (lv_sub hl [0, 1, 2, 3, 4] rfl) hf
                                    refine r_if_ne C dL_law_888 hf (fun hf => ?_) (fun hf => ?_)
                                    · exact j903  _ _ _ _ _ (by omega) (by omega) P (lv_sub hl [2, 3, 4, 5, 6] rfl) hf
                                    · refine r_aload_n C hl 5 rfl rfl dL_law_891 ?_
                                      refine r_iconst C (v := 0) (by decide) dL_law_892 ?_
                                      refine w_lald C P dL_law_893 ?_
                                      refine r_iload C hl 0 rfl dL_law_894 ?_
                                      refine r_i2l C dL_law_896 ?_
                                      refine r_lcmp C dL_law_897 ?_
                                      refine r_if_eq C dL_law_898 hf (fun hf => ?_) (fun hf => ?_)
                                      · exact j903  _ _ _ _ _ (by omega) (by omega) P (lv_sub hl [2, 3, 4, 5, 6] rfl) hf
                                      · refine r_iconst C (v := 0) (by decide) dL_law_901 ?_
                                        exact absurd (Option.some.inj hf) (by decide)
                                  · refine r_iconst C (v := 0) (by decide) dL_law_884 ?_
                                    exact absurd (Option.some.inj hf) (by decide)
                                · refine r_ite hf (fun hc14 hf => ?_) (fun hc14 hf => ?_)
                                  · refine lv_tableIn C.1 C.2.1 (off := 867) (tgt := 906) dL_law_39.1 (by rw [hc14] <;> decide) (by rw [hc14] <;> decide) (by rw [hc14] <;> decide) rfl ?_
                                    refine r_aload_n C hl 1 rfl rfl dL_law_906 ?_
                                    refine r_cVi C P cf_L_142 (rm := rmX5_keep) 0 0 (fun _ _ => ⟨_, rfl⟩) rfl rfl rfl [] [] hf (fun _ _ h => ctX5_keep l G o_2 h) ⟨rfl, rfl⟩ ⟨Nat.le_of_ble_eq_true rfl, Nat.le_of_ble_eq_true rfl⟩ ⟨by show _ ≤ 601024; omega, by show _ ≤ 7293034; omega⟩ rfl rfl hl.1 (Nat.le_of_ble_eq_true rfl) dL_law_907 (fun r_74 o_75 H1 L1 P hf => ?_)
                                    refine r_aload_n C hl 2 rfl rfl dL_law_910 ?_
                                    refine r_cVi C P cf_L_145 (rm := rmX6_keep) 19 0 (fun _ _ => ⟨_, rfl⟩) rfl rfl rfl [] [.int r_74] hf (fun _ _ h => ctX6_keep l G o_75 h) ⟨rfl, rfl⟩ ⟨Nat.le_of_ble_eq_true rfl, Nat.le_of_ble_eq_true rfl⟩ ⟨by show _ ≤ 601024; omega, by show _ ≤ 7293034; omega⟩ rfl rfl hl.1 (Nat.le_of_ble_eq_true rfl) dL_law_911 (fun r_76 o_77 H1 L1 P hf => ?_)
                                    refine r_icmp_eq C dL_law_914 hf (fun hf => ?_) (fun hf => ?_)
                                    · exact j1642 o_77 _ _ _ _ _ (by omega) (by omega) P (lv_sub hl [0, 1, 2, 3, 4] rfl) hf
                                    · refine r_iconst C (v := 0) (by decide) dL_law_917 ?_
                                      exact absurd (Option.some.inj hf) (by decide)
                                  · refine r_ite hf (fun hc15 hf => ?_) (fun hc15 hf => ?_)
                                    · refine lv_tableIn C.1 C.2.1 (off := 880) (tgt := 919) dL_law_39.1 (by rw [hc15] <;> decide) (by rw [hc15] <;> decide) (by rw [hc15] <;> decide) rfl ?_
                                      refine r_aload_n C hl 1 rfl rfl dL_law_919 ?_
                                      refine r_aload_n C hl 3 rfl rfl dL_law_920 ?_
                                      refine w_cS C X P cfw_146 (rm := rmL_restore) [.ref (rA G 0 0), .ref (rA G 24 0)] [] hf (fun _ _ h => ctL_restore l G hl9 o_2 h) ⟨Nat.le_of_ble_eq_true rfl, Nat.le_of_ble_eq_true rfl⟩ ⟨by show _ ≤ 601024; omega, by show _ ≤ 7293034; omega⟩ rfl rfl hl.1 (Nat.le_of_ble_eq_true rfl) dL_law_921 (fun r_78 o_79 cl sl H1 L1 hb1 hb2 P hf => ?_)
                                      refine r_istore C [(5, .int r_78), (0, .ref b), (1, .ref (rA G 0 0)), (2, .ref (rA G 19 0)), (3, .ref (rA G 24 0)), (4, .int v4_1)] hl (by decide) rfl dL_law_924 (fun ls hl => ?_)
                                      refine r_aload_n C hl 3 rfl rfl dL_law_926 ?_
                                      refine r_cVi C P cf_L_148 (rm := rmX6_restore) 19 0 (fun _ _ => ⟨_, rfl⟩) rfl rfl rfl [] [] hf (fun _ _ h => ctX6_restore l G o_79 h) ⟨rfl, rfl⟩ ⟨Nat.le_of_ble_eq_true rfl, Nat.le_of_ble_eq_true rfl⟩ ⟨by show _ ≤ 601024; omega, by show _ ≤ 7293034; omega⟩ rfl rfl hl.1 (Nat.le_of_ble_eq_true rfl) dL_law_927 (fun r_80 o_81 H1 L1 P hf => ?_)
                                      refine r_istore C [(6, .int r_80), (5, .int r_78), (0, .ref b), (1, .ref (rA G 0 0)), (2, .ref (rA G 19 0)), (3, .ref (rA G 24 0)), (4, .int v4_1)] hl (by decide) rfl dL_law_930 (fun ls hl => ?_)
                                      refine r_aload_n C hl 4 rfl rfl dL_law_932 ?_
                                      refine r_qVi C P cf_L_95 (rm := rmX6_thrown) 19 0 (fun _ _ => ⟨_, rfl⟩) rfl rfl rfl [] [] hf (fun _ h => ctX6_thrown l G o_81 h) ⟨rfl, rfl⟩ ⟨Nat.le_of_ble_eq_true rfl, Nat.le_of_ble_eq_true rfl⟩ ⟨by show _ ≤ 601024; omega, by show _ ≤ 7293034; omega⟩ rfl rfl hl.1 (Nat.le_of_ble_eq_true rfl) dL_law_933 (fun r_82 H1 L1 P hf => ?_)
                                      refine r_iload C hl 1 rfl dL_law_936 ?_
                                      refine r_icmp_eq C dL_law_938 hf (fun hf => ?_) (fun hf => ?_)
                                      · refine r_iload C hl 1 rfl dL_law_943 ?_
                                        refine r_jn (fun k960 : Unit → Option Int32 => ∀ H1 L1 ls (cl sl : Nat), cl + n ≤ 601024 → sl + 6 * n ≤ 7293034 → Hp G o_81 s H1 L1 → lv_has ls 9 [(0, .ref b), (1, .ref (rA G 0 0)), (2, .ref (rA G 19 0)), (3, .ref (rA G 24 0)), (4, .int v4_1)] → k960 () = some 1 → W p l e room_1 s m args below meth c H1 L1 cl sl Q (F0 m 960 ls [])) hf ?_ (fun k960 j960 hf => ?_)
                                        · intro  H1 L1 ls cl sl hc1 hc2  P hl hf
                                          refine r_goto C dL_law_960 ?_
                                          exact j1642 o_81 _ _ _ _ _ (by omega) (by omega) P (lv_sub hl [0, 1, 2, 3, 4] rfl) hf
                                        refine r_if_ne C dL_law_945 hf (fun hf => ?_) (fun hf => ?_)
                                        · exact j960  _ _ _ _ _ (by omega) (by omega) P (lv_sub hl [2, 3, 4, 5, 6] rfl) hf
                                        · refine r_aload_n C hl 5 rfl rfl dL_law_948 ?_
                                          refine r_iconst C (v := 0) (by decide) dL_law_949 ?_
                                          refine w_lald C P dL_law_950 ?_
                                          refine r_iload C hl 0 rfl dL_law_951 ?_
                                          refine r_i2l C dL_law_953 ?_
                                          refine r_lcmp C dL_law_954 ?_
                                          refine r_if_eq C dL_law_955 hf (fun hf => ?_) (fun hf => ?_)
                                          · exact j960  _ _ _ _ _ (by omega) (by omega) P (lv_sub hl [2, 3, 4, 5, 6] rfl) hf
                                          · refine r_iconst C (v := 0) (by decide) dL_law_958 ?_
                                            exact absurd (Option.some.inj hf) (by decide)
                                      · refine r_iconst C (v := 0) (by decide) dL_law_941 ?_
                                        exact absurd (Option.some.inj hf) (by decide)
                                    · refine r_ite hf (fun hc16 hf => ?_) (fun hc16 hf => ?_)
                                      · refine lv_tableIn C.1 C.2.1 (off := 924) (tgt := 963) dL_law_39.1 (by rw [hc16] <;> decide) (by rw [hc16] <;> decide) (by rw [hc16] <;> decide) rfl ?_
                                        refine r_aload_n C hl 1 rfl rfl dL_law_963 ?_
                                        refine r_aload_n C hl 0 rfl rfl dL_law_964 ?_
                                        refine r_iload C hl 4 rfl dL_law_965 ?_
                                        refine r_iconst C (v := 1) (by decide) dL_law_967 ?_
                                        refine r_iadd2 C dL_law_968 ?_
                                        refine w_sld C hX hbl hbA P dL_law_969 hf (fun hf => ?_)
                                        refine r_aload_n C hl 0 rfl rfl dL_law_970 ?_
                                        refine r_iload C hl 4 rfl dL_law_971 ?_
                                        refine r_iconst C (v := 2) (by decide) dL_law_973 ?_
                                        refine r_iadd2 C dL_law_974 ?_
                                        refine w_sld C hX hbl hbA P dL_law_975 hf (fun hf => ?_)
                                        refine r_aload_n C hl 3 rfl rfl dL_law_976 ?_
                                        refine w_cS C X P cfw_149 (rm := rmL_reads) [.ref (rA G 0 0), .int (xs (v4_1 + ((1 : Int32))).toNatClampNeg), .int (xs (v4_1 + ((2 : Int32))).toNatClampNeg), .ref (rA G 24 0)] [] hf (fun _ _ h => ctL_reads l G hl9 o_2 (xs (v4_1 + ((1 : Int32))).toNatClampNeg) (xs (v4_1 + ((2 : Int32))).toNatClampNeg) h) ⟨Nat.le_of_ble_eq_true rfl, Nat.le_of_ble_eq_true rfl⟩ ⟨by show _ ≤ 601024; omega, by show _ ≤ 7293034; omega⟩ rfl rfl hl.1 (Nat.le_of_ble_eq_true rfl) dL_law_977 (fun r_83 o_84 cl sl H1 L1 hb1 hb2 P hf => ?_)
                                        refine r_istore C [(5, .int r_83), (0, .ref b), (1, .ref (rA G 0 0)), (2, .ref (rA G 19 0)), (3, .ref (rA G 24 0)), (4, .int v4_1)] hl (by decide) rfl dL_law_980 (fun ls hl => ?_)
                                        refine r_aload_n C hl 3 rfl rfl dL_law_982 ?_
                                        refine r_aload_n C hl 1 rfl rfl dL_law_983 ?_
                                        refine r_iload C hl 5 rfl dL_law_984 ?_
                                        refine r_iconst C (v := 1) (by decide) dL_law_986 ?_
                                        refine r_iadd2 C dL_law_987 ?_
                                        refine w_sld C hX hbl hbA P dL_law_988 hf (fun hf => ?_)
                                        refine r_aload_n C hl 1 rfl rfl dL_law_989 ?_
                                        refine r_iload C hl 5 rfl dL_law_990 ?_
                                        refine r_iconst C (v := 2) (by decide) dL_law_992 ?_
                                        refine r_iadd2 C dL_law_993 ?_
                                        refine w_sld C hX hbl hbA P dL_law_994 hf (fun hf => ?_)
                                        refine r_cVi C P cf_L_151 (rm := rmX6_reads) 19 0 (fun _ _ => ⟨_, rfl⟩) rfl rfl rfl [.int (xs (v4_1 + ((1 : Int32))).toNatClampNeg), .int (xs (v4_1 + ((2 : Int32))).toNatClampNeg)] [] hf (fun _ _ h => ctX6_reads l G o_84 (xs (v4_1 + ((1 : Int32))).toNatClampNeg) (xs (v4_1 + ((2 : Int32))).toNatClampNeg) h) ⟨rfl, rfl⟩ ⟨Nat.le_of_ble_eq_true rfl, Nat.le_of_ble_eq_true rfl⟩ ⟨by show _ ≤ 601024; omega, by show _ ≤ 7293034; omega⟩ rfl rfl hl.1 (Nat.le_of_ble_eq_true rfl) dL_law_995 (fun r_85 o_86 H1 L1 P hf => ?_)
                                        refine r_istore C [(6, .int r_85), (5, .int r_83), (0, .ref b), (1, .ref (rA G 0 0)), (2, .ref (rA G 19 0)), (3, .ref (rA G 24 0)), (4, .int v4_1)] hl (by decide) rfl dL_law_998 (fun ls hl => ?_)
                                        refine r_aload_n C hl 4 rfl rfl dL_law_1000 ?_
                                        refine r_qVi C P cf_L_95 (rm := rmX6_thrown) 19 0 (fun _ _ => ⟨_, rfl⟩) rfl rfl rfl [] [] hf (fun _ h => ctX6_thrown l G o_86 h) ⟨rfl, rfl⟩ ⟨Nat.le_of_ble_eq_true rfl, Nat.le_of_ble_eq_true rfl⟩ ⟨by show _ ≤ 601024; omega, by show _ ≤ 7293034; omega⟩ rfl rfl hl.1 (Nat.le_of_ble_eq_true rfl) dL_law_1001 (fun r_87 H1 L1 P hf => ?_)
                                        refine r_iload C hl 1 rfl dL_law_1004 ?_
                                        refine r_icmp_eq C dL_law_1006 hf (fun hf => ?_) (fun hf => ?_)
                                        · refine r_iload C hl 1 rfl dL_law_1011 ?_
                                          refine r_jn (fun k1028 : Unit → Option Int32 => ∀ H1 L1 ls (cl sl : Nat), cl + n ≤ 601024 → sl + 6 * n ≤ 7293034 → Hp G o_86 s H1 L1 → lv_has ls 9 [(0, .ref b), (1, .ref (rA G 0 0)), (2, .ref (rA G 19 0)), (3, .ref (rA G 24 0)), (4, .int v4_1)] → k1028 () = some 1 → W p l e room_1 s m args below meth c H1 L1 cl sl Q (F0 m 1028 ls [])) hf ?_ (fun k1028 j1028 hf => ?_)
                                          · intro  H1 L1 ls cl sl hc1 hc2  P hl hf
                                            refine r_goto C dL_law_1028 ?_
                                            exact j1642 o_86 _ _ _ _ _ (by omega) (by omega) P (lv_sub hl [0, 1, 2, 3, 4] rfl) hf
                                          refine r_if_ne C dL_law_1013 hf (fun hf => ?_) (fun hf => ?_)
                                          · exact j1028  _ _ _ _ _ (by omega) (by omega) P (lv_sub hl [2, 3, 4, 5, 6] rfl) hf
                                          · refine r_aload_n C hl 5 rfl rfl dL_law_1016 ?_
                                            refine r_iconst C (v := 0) (by decide) dL_law_1017 ?_
                                            refine w_lald C P dL_law_1018 ?_
                                            refine r_iload C hl 0 rfl dL_law_1019 ?_
                                            refine r_i2l C dL_law_1021 ?_
                                            refine r_lcmp C dL_law_1022 ?_
                                            refine r_if_eq C dL_law_1023 hf (fun hf => ?_) (fun hf => ?_)
                                            · exact j1028  _ _ _ _ _ (by omega) (by omega) P (lv_sub hl [2, 3, 4, 5, 6] rfl) hf
                                            · refine r_iconst C (v := 0) (by decide) dL_law_1026 ?_
                                              exact absurd (Option.some.inj hf) (by decide)
                                        · refine r_iconst C (v := 0) (by decide) dL_law_1009 ?_
                                          exact absurd (Option.some.inj hf) (by decide)
                                      · refine r_ite hf (fun hc17 hf => ?_) (fun hc17 hf => ?_)
                                        · refine lv_tableIn C.1 C.2.1 (off := 992) (tgt := 1031) dL_law_39.1 (by rw [hc17] <;> decide) (by rw [hc17] <;> decide) (by rw [hc17] <;> decide) rfl ?_
                                          refine r_aload_n C hl 1 rfl rfl dL_law_1031 ?_
                                          refine r_aload_n C hl 0 rfl rfl dL_law_1032 ?_
                                          refine r_iload C hl 4 rfl dL_law_1033 ?_
                                          refine r_iconst C (v := 1) (by decide) dL_law_1035 ?_
                                          refine r_iadd2 C dL_law_1036 ?_
                                          refine w_sld C hX hbl hbA P dL_law_1037 hf (fun hf => ?_)
                                          refine r_aload_n C hl 0 rfl rfl dL_law_1038 ?_
                                          refine r_iload C hl 4 rfl dL_law_1039 ?_
                                          refine r_iconst C (v := 2) (by decide) dL_law_1041 ?_
                                          refine r_iadd2 C dL_law_1042 ?_
                                          refine w_sld C hX hbl hbA P dL_law_1043 hf (fun hf => ?_)
                                          refine r_aload_n C hl 0 rfl rfl dL_law_1044 ?_
                                          refine r_iload C hl 4 rfl dL_law_1045 ?_
                                          refine r_iconst C (v := 3) (by decide) dL_law_1047 ?_
                                          refine r_iadd2 C dL_law_1048 ?_
                                          refine w_sld C hX hbl hbA P dL_law_1049 hf (fun hf => ?_)
                                          refine r_aload_n C hl 3 rfl rfl dL_law_1050 ?_
                                          refine w_cS C X P cfw_152 (rm := rmL_corrected) [.ref (rA G 0 0), .int (xs (v4_1 + ((1 : Int32))).toNatClampNeg), .int (xs (v4_1 + ((2 : Int32))).toNatClampNeg), .int (xs (v4_1 + ((3 : Int32))).toNatClampNeg), .ref (rA G 24 0)] [] hf (fun _ _ h => ctL_corrected l G hl9 o_2 (xs (v4_1 + ((1 : Int32))).toNatClampNeg) (xs (v4_1 + ((2 : Int32))).toNatClampNeg) (xs (v4_1 + ((3 : Int32))).toNatClampNeg) h) ⟨Nat.le_of_ble_eq_true rfl, Nat.le_of_ble_eq_true rfl⟩ ⟨by show _ ≤ 601024; omega, by show _ ≤ 7293034; omega⟩ rfl rfl hl.1 (Nat.le_of_ble_eq_true rfl) dL_law_1051 (fun r_88 o_89 cl sl H1 L1 hb1 hb2 P hf => ?_)
                                          refine r_istore C [(5, .int r_88), (0, .ref b), (1, .ref (rA G 0 0)), (2, .ref (rA G 19 0)), (3, .ref (rA G 24 0)), (4, .int v4_1)] hl (by decide) rfl dL_law_1054 (fun ls hl => ?_)
                                          refine r_aload_n C hl 3 rfl rfl dL_law_1056 ?_
                                          refine r_aload_n C hl 1 rfl rfl dL_law_1057 ?_
                                          refine r_iload C hl 5 rfl dL_law_1058 ?_
                                          refine r_iconst C (v := 1) (by decide) dL_law_1060 ?_
                                          refine r_iadd2 C dL_law_1061 ?_
                                          refine w_sld C hX hbl hbA P dL_law_1062 hf (fun hf => ?_)
                                          refine r_aload_n C hl 1 rfl rfl dL_law_1063 ?_
                                          refine r_iload C hl 5 rfl dL_law_1064 ?_
                                          refine r_iconst C (v := 2) (by decide) dL_law_1066 ?_
                                          refine r_iadd2 C dL_law_1067 ?_
                                          refine w_sld C hX hbl hbA P dL_law_1068 hf (fun hf => ?_)
                                          refine r_aload_n C hl 1 rfl rfl dL_law_1069 ?_
                                          refine r_iload C hl 5 rfl dL_law_1070 ?_
                                          refine r_iconst C (v := 3) (by decide) dL_law_1072 ?_
                                          refine r_iadd2 C dL_law_1073 ?_
                                          refine w_sld C hX hbl hbA P dL_law_1074 hf (fun hf => ?_)
                                          refine r_cVi C P cf_L_154 (rm := rmX6_corrected) 19 0 (fun _ _ => ⟨_, rfl⟩) rfl rfl rfl [.int (xs (v4_1 + ((1 : Int32))).toNatClampNeg), .int (xs (v4_1 + ((2 : Int32))).toNatClampNeg), .int (xs (v4_1 + ((3 : Int32))).toNatClampNeg)] [] hf (fun _ _ h => ctX6_corrected l G o_89 (xs (v4_1 + ((1 : Int32))).toNatClampNeg) (xs (v4_1 + ((2 : Int32))).toNatClampNeg) (xs (v4_1 + ((3 : Int32))).toNatClampNeg) h) ⟨rfl, rfl⟩ ⟨Nat.le_of_ble_eq_true rfl, Nat.le_of_ble_eq_true rfl⟩ ⟨by show _ ≤ 601024; omega, by show _ ≤ 7293034; omega⟩ rfl rfl hl.1 (Nat.le_of_ble_eq_true rfl) dL_law_1075 (fun r_90 o_91 H1 L1 P hf => ?_)
                                          refine r_istore C [(6, .int r_90), (5, .int r_88), (0, .ref b), (1, .ref (rA G 0 0)), (2, .ref (rA G 19 0)), (3, .ref (rA G 24 0)), (4, .int v4_1)] hl (by decide) rfl dL_law_1078 (fun ls hl => ?_)
                                          refine r_aload_n C hl 4 rfl rfl dL_law_1080 ?_
                                          refine r_qVi C P cf_L_95 (rm := rmX6_thrown) 19 0 (fun _ _ => ⟨_, rfl⟩) rfl rfl rfl [] [] hf (fun _ h => ctX6_thrown l G o_91 h) ⟨rfl, rfl⟩ ⟨Nat.le_of_ble_eq_true rfl, Nat.le_of_ble_eq_true rfl⟩ ⟨by show _ ≤ 601024; omega, by show _ ≤ 7293034; omega⟩ rfl rfl hl.1 (Nat.le_of_ble_eq_true rfl) dL_law_1081 (fun r_92 H1 L1 P hf => ?_)
                                          refine r_iload C hl 1 rfl dL_law_1084 ?_
                                          refine r_icmp_eq C dL_law_1086 hf (fun hf => ?_) (fun hf => ?_)
                                          · refine r_iload C hl 1 rfl dL_law_1091 ?_
                                            refine r_jn (fun k1108 : Unit → Option Int32 => ∀ H1 L1 ls (cl sl : Nat), cl + n ≤ 601024 → sl + 6 * n ≤ 7293034 → Hp G o_91 s H1 L1 → lv_has ls 9 [(0, .ref b), (1, .ref (rA G 0 0)), (2, .ref (rA G 19 0)), (3, .ref (rA G 24 0)), (4, .int v4_1)] → k1108 () = some 1 → W p l e room_1 s m args below meth c H1 L1 cl sl Q (F0 m 1108 ls [])) hf ?_ (fun k1108 j1108 hf => ?_)
                                            · intro  H1 L1 ls cl sl hc1 hc2  P hl hf
                                              refine r_goto C dL_law_1108 ?_
                                              exact j1642 o_91 _ _ _ _ _ (by omega) (by omega) P (lv_sub hl [0, 1, 2, 3, 4] rfl) hf
                                            refine r_if_ne C dL_law_1093 hf (fun hf => ?_) (fun hf => ?_)
                                            · exact j1108  _ _ _ _ _ (by omega) (by omega) P (lv_sub hl [2, 3, 4, 5, 6] rfl) hf
                                            · refine r_aload_n C hl 5 rfl rfl dL_law_1096 ?_
                                              refine r_iconst C (v := 0) (by decide) dL_law_1097 ?_
                                              refine w_lald C P dL_law_1098 ?_
                                              refine r_iload C hl 0 rfl dL_law_1099 ?_
                                              refine r_i2l C dL_law_1101 ?_
                                              refine r_lcmp C dL_law_1102 ?_
                                              refine r_if_eq C dL_law_1103 hf (fun hf => ?_) (fun hf => ?_)
                                              · exact j1108  _ _ _ _ _ (by omega) (by omega) P (lv_sub hl [2, 3, 4, 5, 6] rfl) hf
                                              · refine r_iconst C (v := 0) (by decide) dL_law_1106 ?_
                                                exact absurd (Option.some.inj hf) (by decide)
                                          · refine r_iconst C (v := 0) (by decide) dL_law_1089 ?_
                                            exact absurd (Option.some.inj hf) (by decide)
                                        · refine r_ite hf (fun hc18 hf => ?_) (fun hc18 hf => ?_)
                                          · refine lv_tableIn C.1 C.2.1 (off := 1072) (tgt := 1111) dL_law_39.1 (by rw [hc18] <;> decide) (by rw [hc18] <;> decide) (by rw [hc18] <;> decide) rfl ?_
                                            refine r_aload_n C hl 1 rfl rfl dL_law_1111 ?_
                                            refine r_aload_n C hl 0 rfl rfl dL_law_1112 ?_
                                            refine r_iload C hl 4 rfl dL_law_1113 ?_
                                            refine r_iconst C (v := 1) (by decide) dL_law_1115 ?_
                                            refine r_iadd2 C dL_law_1116 ?_
                                            refine w_sld C hX hbl hbA P dL_law_1117 hf (fun hf => ?_)
                                            refine r_aload_n C hl 0 rfl rfl dL_law_1118 ?_
                                            refine r_iload C hl 4 rfl dL_law_1119 ?_
                                            refine r_iconst C (v := 2) (by decide) dL_law_1121 ?_
                                            refine r_iadd2 C dL_law_1122 ?_
                                            refine w_sld C hX hbl hbA P dL_law_1123 hf (fun hf => ?_)
                                            refine r_aload_n C hl 3 rfl rfl dL_law_1124 ?_
                                            refine w_cS C X P cfw_155 (rm := rmL_thermometer) [.ref (rA G 0 0), .int (xs (v4_1 + ((1 : Int32))).toNatClampNeg), .int (xs (v4_1 + ((2 : Int32))).toNatClampNeg), .ref (rA G 24 0)] [] hf (fun _ _ h => ctL_thermometer l G hl9 o_2 (xs (v4_1 + ((1 : Int32))).toNatClampNeg) (xs (v4_1 + ((2 : Int32))).toNatClampNeg) h) ⟨Nat.le_of_ble_eq_true rfl, Nat.le_of_ble_eq_true rfl⟩ ⟨by show _ ≤ 601024; omega, by show _ ≤ 7293034; omega⟩ rfl rfl hl.1 (Nat.le_of_ble_eq_true rfl) dL_law_1125 (fun r_93 o_94 cl sl H1 L1 hb1 hb2 P hf => ?_)
                                            refine r_istore C [(5, .int r_93), (0, .ref b), (1, .ref (rA G 0 0)), (2, .ref (rA G 19 0)), (3, .ref (rA G 24 0)), (4, .int v4_1)] hl (by decide) rfl dL_law_1128 (fun ls hl => ?_)
                                            refine r_aload_n C hl 3 rfl rfl dL_law_1130 ?_
                                            refine r_aload_n C hl 1 rfl rfl dL_law_1131 ?_
                                            refine r_iload C hl 5 rfl dL_law_1132 ?_
                                            refine r_iconst C (v := 1) (by decide) dL_law_1134 ?_
                                            refine r_iadd2 C dL_law_1135 ?_
                                            refine w_sld C hX hbl hbA P dL_law_1136 hf (fun hf => ?_)
                                            refine r_aload_n C hl 1 rfl rfl dL_law_1137 ?_
                                            refine r_iload C hl 5 rfl dL_law_1138 ?_
                                            refine r_iconst C (v := 2) (by decide) dL_law_1140 ?_
                                            refine r_iadd2 C dL_law_1141 ?_
                                            refine w_sld C hX hbl hbA P dL_law_1142 hf (fun hf => ?_)
                                            refine r_cVi C P cf_L_157 (rm := rmX6_thermometer) 19 0 (fun _ _ => ⟨_, rfl⟩) rfl rfl rfl [.int (xs (v4_1 + ((1 : Int32))).toNatClampNeg), .int (xs (v4_1 + ((2 : Int32))).toNatClampNeg)] [] hf (fun _ _ h => ctX6_thermometer l G o_94 (xs (v4_1 + ((1 : Int32))).toNatClampNeg) (xs (v4_1 + ((2 : Int32))).toNatClampNeg) h) ⟨rfl, rfl⟩ ⟨Nat.le_of_ble_eq_true rfl, Nat.le_of_ble_eq_true rfl⟩ ⟨by show _ ≤ 601024; omega, by show _ ≤ 7293034; omega⟩ rfl rfl hl.1 (Nat.le_of_ble_eq_true rfl) dL_law_1143 (fun r_95 o_96 H1 L1 P hf => ?_)
                                            refine r_istore C [(6, .int r_95), (5, .int r_93), (0, .ref b), (1, .ref (rA G 0 0)), (2, .ref (rA G 19 0)), (3, .ref (rA G 24 0)), (4, .int v4_1)] hl (by decide) rfl dL_law_1146 (fun ls hl => ?_)
                                            refine r_aload_n C hl 4 rfl rfl dL_law_1148 ?_
                                            refine r_qVi C P cf_L_95 (rm := rmX6_thrown) 19 0 (fun _ _ => ⟨_, rfl⟩) rfl rfl rfl [] [] hf (fun _ h => ctX6_thrown l G o_96 h) ⟨rfl, rfl⟩ ⟨Nat.le_of_ble_eq_true rfl, Nat.le_of_ble_eq_true rfl⟩ ⟨by show _ ≤ 601024; omega, by show _ ≤ 7293034; omega⟩ rfl rfl hl.1 (Nat.le_of_ble_eq_true rfl) dL_law_1149 (fun r_97 H1 L1 P hf => ?_)
                                            refine r_iload C hl 1 rfl dL_law_1152 ?_
                                            refine r_icmp_eq C dL_law_1154 hf (fun hf => ?_) (fun hf => ?_)
                                            · refine r_iload C hl 1 rfl dL_law_1159 ?_
                                              refine r_jn (fun k1176 : Unit → Option Int32 => ∀ H1 L1 ls (cl sl : Nat), cl + n ≤ 601024 → sl + 6 * n ≤ 7293034 → Hp G o_96 s H1 L1 → lv_has ls 9 [(0, .ref b), (1, .ref (rA G 0 0)), (2, .ref (rA G 19 0)), (3, .ref (rA G 24 0)), (4, .int v4_1)] → k1176 () = some 1 → W p l e room_1 s m args below meth c H1 L1 cl sl Q (F0 m 1176 ls [])) hf ?_ (fun k1176 j1176 hf => ?_)
                                              · intro  H1 L1 ls cl sl hc1 hc2  P hl hf
                                                refine r_goto C dL_law_1176 ?_
                                                exact j1642 o_96 _ _ _ _ _ (by omega) (by omega) P (lv_sub hl [0, 1, 2, 3, 4] rfl) hf
                                              refine r_if_ne C dL_law_1161 hf (fun hf => ?_) (fun hf => ?_)
                                              · exact j1176  _ _ _ _ _ (by omega) (by omega) P (lv_sub hl [2, 3, 4, 5, 6] rfl) hf
                                              · refine r_aload_n C hl 5 rfl rfl dL_law_1164 ?_
                                                refine r_iconst C (v := 0) (by decide) dL_law_1165 ?_
                                                refine w_lald C P dL_law_1166 ?_
                                                refine r_iload C hl 0 rfl dL_law_1167 ?_
                                                refine r_i2l C dL_law_1169 ?_
                                                refine r_lcmp C dL_law_1170 ?_
                                                refine r_if_eq C dL_law_1171 hf (fun hf => ?_) (fun hf => ?_)
                                                · exact j1176  _ _ _ _ _ (by omega) (by omega) P (lv_sub hl [2, 3, 4, 5, 6] rfl) hf
                                                · refine r_iconst C (v := 0) (by decide) dL_law_1174 ?_
                                                  exact absurd (Option.some.inj hf) (by decide)
                                            · refine r_iconst C (v := 0) (by decide) dL_law_1157 ?_
                                              exact absurd (Option.some.inj hf) (by decide)
                                          · refine r_ite hf (fun hc19 hf => ?_) (fun hc19 hf => ?_)
                                            · refine lv_tableIn C.1 C.2.1 (off := 1140) (tgt := 1179) dL_law_39.1 (by rw [hc19] <;> decide) (by rw [hc19] <;> decide) (by rw [hc19] <;> decide) rfl ?_
                                              refine r_aload_n C hl 1 rfl rfl dL_law_1179 ?_
                                              refine r_aload_n C hl 0 rfl rfl dL_law_1180 ?_
                                              refine r_iload C hl 4 rfl dL_law_1181 ?_
                                              refine r_iconst C (v := 1) (by decide) dL_law_1183 ?_
                                              refine r_iadd2 C dL_law_1184 ?_
                                              refine w_sld C hX hbl hbA P dL_law_1185 hf (fun hf => ?_)
                                              refine r_aload_n C hl 0 rfl rfl dL_law_1186 ?_
                                              refine r_iload C hl 4 rfl dL_law_1187 ?_
                                              refine r_iconst C (v := 2) (by decide) dL_law_1189 ?_
                                              refine r_iadd2 C dL_law_1190 ?_
                                              refine w_sld C hX hbl hbA P dL_law_1191 hf (fun hf => ?_)
                                              refine r_aload_n C hl 0 rfl rfl dL_law_1192 ?_
                                              refine r_iload C hl 4 rfl dL_law_1193 ?_
                                              refine r_iconst C (v := 3) (by decide) dL_law_1195 ?_
                                              refine r_iadd2 C dL_law_1196 ?_
                                              refine w_sld C hX hbl hbA P dL_law_1197 hf (fun hf => ?_)
                                              refine r_aload_n C hl 3 rfl rfl dL_law_1198 ?_
                                              refine w_cS C X P cfw_158 (rm := rmL_point) [.ref (rA G 0 0), .int (xs (v4_1 + ((1 : Int32))).toNatClampNeg), .int (xs (v4_1 + ((2 : Int32))).toNatClampNeg), .int (xs (v4_1 + ((3 : Int32))).toNatClampNeg), .ref (rA G 24 0)] [] hf (fun _ _ h => ctL_point l G hl9 o_2 (xs (v4_1 + ((1 : Int32))).toNatClampNeg) (xs (v4_1 + ((2 : Int32))).toNatClampNeg) (xs (v4_1 + ((3 : Int32))).toNatClampNeg) h) ⟨Nat.le_of_ble_eq_true rfl, Nat.le_of_ble_eq_true rfl⟩ ⟨by show _ ≤ 601024; omega, by show _ ≤ 7293034; omega⟩ rfl rfl hl.1 (Nat.le_of_ble_eq_true rfl) dL_law_1199 (fun r_98 o_99 cl sl H1 L1 hb1 hb2 P hf => ?_)
                                              refine r_istore C [(5, .int r_98), (0, .ref b), (1, .ref (rA G 0 0)), (2, .ref (rA G 19 0)), (3, .ref (rA G 24 0)), (4, .int v4_1)] hl (by decide) rfl dL_law_1202 (fun ls hl => ?_)
                                              refine r_aload_n C hl 3 rfl rfl dL_law_1204 ?_
                                              refine r_aload_n C hl 1 rfl rfl dL_law_1205 ?_
                                              refine r_iload C hl 5 rfl dL_law_1206 ?_
                                              refine r_iconst C (v := 1) (by decide) dL_law_1208 ?_
                                              refine r_iadd2 C dL_law_1209 ?_
                                              refine w_sld C hX hbl hbA P dL_law_1210 hf (fun hf => ?_)
                                              refine r_aload_n C hl 1 rfl rfl dL_law_1211 ?_
                                              refine r_iload C hl 5 rfl dL_law_1212 ?_
                                              refine r_iconst C (v := 2) (by decide) dL_law_1214 ?_
                                              refine r_iadd2 C dL_law_1215 ?_
                                              refine w_sld C hX hbl hbA P dL_law_1216 hf (fun hf => ?_)
                                              refine r_aload_n C hl 1 rfl rfl dL_law_1217 ?_
                                              refine r_iload C hl 5 rfl dL_law_1218 ?_
                                              refine r_iconst C (v := 3) (by decide) dL_law_1220 ?_
                                              refine r_iadd2 C dL_law_1221 ?_
                                              refine w_sld C hX hbl hbA P dL_law_1222 hf (fun hf => ?_)
                                              refine r_cVi C P cf_L_160 (rm := rmX6_point) 19 0 (fun _ _ => ⟨_, rfl⟩) rfl rfl rfl [.int (xs (v4_1 + ((1 : Int32))).toNatClampNeg), .int (xs (v4_1 + ((2 : Int32))).toNatClampNeg), .int (xs (v4_1 + ((3 : Int32))).toNatClampNeg)] [] hf (fun _ _ h => ctX6_point l G o_99 (xs (v4_1 + ((1 : Int32))).toNatClampNeg) (xs (v4_1 + ((2 : Int32))).toNatClampNeg) (xs (v4_1 + ((3 : Int32))).toNatClampNeg) h) ⟨rfl, rfl⟩ ⟨Nat.le_of_ble_eq_true rfl, Nat.le_of_ble_eq_true rfl⟩ ⟨by show _ ≤ 601024; omega, by show _ ≤ 7293034; omega⟩ rfl rfl hl.1 (Nat.le_of_ble_eq_true rfl) dL_law_1223 (fun r_100 o_101 H1 L1 P hf => ?_)
                                              refine r_istore C [(6, .int r_100), (5, .int r_98), (0, .ref b), (1, .ref (rA G 0 0)), (2, .ref (rA G 19 0)), (3, .ref (rA G 24 0)), (4, .int v4_1)] hl (by decide) rfl dL_law_1226 (fun ls hl => ?_)
                                              refine r_aload_n C hl 4 rfl rfl dL_law_1228 ?_
                                              refine r_qVi C P cf_L_95 (rm := rmX6_thrown) 19 0 (fun _ _ => ⟨_, rfl⟩) rfl rfl rfl [] [] hf (fun _ h => ctX6_thrown l G o_101 h) ⟨rfl, rfl⟩ ⟨Nat.le_of_ble_eq_true rfl, Nat.le_of_ble_eq_true rfl⟩ ⟨by show _ ≤ 601024; omega, by show _ ≤ 7293034; omega⟩ rfl rfl hl.1 (Nat.le_of_ble_eq_true rfl) dL_law_1229 (fun r_102 H1 L1 P hf => ?_)
                                              refine r_iload C hl 1 rfl dL_law_1232 ?_
                                              refine r_icmp_eq C dL_law_1234 hf (fun hf => ?_) (fun hf => ?_)
                                              · refine r_iload C hl 1 rfl dL_law_1239 ?_
                                                refine r_jn (fun k1256 : Unit → Option Int32 => ∀ H1 L1 ls (cl sl : Nat), cl + n ≤ 601024 → sl + 6 * n ≤ 7293034 → Hp G o_101 s H1 L1 → lv_has ls 9 [(0, .ref b), (1, .ref (rA G 0 0)), (2, .ref (rA G 19 0)), (3, .ref (rA G 24 0)), (4, .int v4_1)] → k1256 () = some 1 → W p l e room_1 s m args below meth c H1 L1 cl sl Q (F0 m 1256 ls [])) hf ?_ (fun k1256 j1256 hf => ?_)
                                                · intro  H1 L1 ls cl sl hc1 hc2  P hl hf
                                                  refine r_goto C dL_law_1256 ?_
                                                  exact j1642 o_101 _ _ _ _ _ (by omega) (by omega) P (lv_sub hl [0, 1, 2, 3, 4] rfl) hf
                                                refine r_if_ne C dL_law_1241 hf (fun hf => ?_) (fun hf => ?_)
                                                · exact j1256  _ _ _ _ _ (by omega) (by omega) P (lv_sub hl [2, 3, 4, 5, 6] rfl) hf
                                                · refine r_aload_n C hl 5 rfl rfl dL_law_1244 ?_
                                                  refine r_iconst C (v := 0) (by decide) dL_law_1245 ?_
                                                  refine w_lald C P dL_law_1246 ?_
                                                  refine r_iload C hl 0 rfl dL_law_1247 ?_
                                                  refine r_i2l C dL_law_1249 ?_
                                                  refine r_lcmp C dL_law_1250 ?_
                                                  refine r_if_eq C dL_law_1251 hf (fun hf => ?_) (fun hf => ?_)
                                                  · exact j1256  _ _ _ _ _ (by omega) (by omega) P (lv_sub hl [2, 3, 4, 5, 6] rfl) hf
                                                  · refine r_iconst C (v := 0) (by decide) dL_law_1254 ?_
                                                    exact absurd (Option.some.inj hf) (by decide)
                                              · refine r_iconst C (v := 0) (by decide) dL_law_1237 ?_
                                                exact absurd (Option.some.inj hf) (by decide)
                                            · refine r_ite hf (fun hc20 hf => ?_) (fun hc20 hf => ?_)
                                              · refine lv_tableIn C.1 C.2.1 (off := 1220) (tgt := 1259) dL_law_39.1 (by rw [hc20] <;> decide) (by rw [hc20] <;> decide) (by rw [hc20] <;> decide) rfl ?_
                                                refine r_aload_n C hl 1 rfl rfl dL_law_1259 ?_
                                                refine r_aload_n C hl 0 rfl rfl dL_law_1260 ?_
                                                refine r_iload C hl 4 rfl dL_law_1261 ?_
                                                refine r_iconst C (v := 1) (by decide) dL_law_1263 ?_
                                                refine r_iadd2 C dL_law_1264 ?_
                                                refine w_sld C hX hbl hbA P dL_law_1265 hf (fun hf => ?_)
                                                refine r_aload_n C hl 3 rfl rfl dL_law_1266 ?_
                                                refine w_cS C X P cfw_161 (rm := rmL_count) [.ref (rA G 0 0), .int (xs (v4_1 + ((1 : Int32))).toNatClampNeg), .ref (rA G 24 0)] [] hf (fun _ _ h => ctL_count l G hl9 o_2 (xs (v4_1 + ((1 : Int32))).toNatClampNeg) h) ⟨Nat.le_of_ble_eq_true rfl, Nat.le_of_ble_eq_true rfl⟩ ⟨by show _ ≤ 601024; omega, by show _ ≤ 7293034; omega⟩ rfl rfl hl.1 (Nat.le_of_ble_eq_true rfl) dL_law_1267 (fun r_103 o_104 cl sl H1 L1 hb1 hb2 P hf => ?_)
                                                refine r_istore C [(5, .int r_103), (0, .ref b), (1, .ref (rA G 0 0)), (2, .ref (rA G 19 0)), (3, .ref (rA G 24 0)), (4, .int v4_1)] hl (by decide) rfl dL_law_1270 (fun ls hl => ?_)
                                                refine r_aload_n C hl 3 rfl rfl dL_law_1272 ?_
                                                refine r_aload_n C hl 1 rfl rfl dL_law_1273 ?_
                                                refine r_iload C hl 5 rfl dL_law_1274 ?_
                                                refine r_iconst C (v := 1) (by decide) dL_law_1276 ?_
                                                refine r_iadd2 C dL_law_1277 ?_
                                                refine w_sld C hX hbl hbA P dL_law_1278 hf (fun hf => ?_)
                                                refine r_cVi C P cf_L_163 (rm := rmX6_count) 19 0 (fun _ _ => ⟨_, rfl⟩) rfl rfl rfl [.int (xs (v4_1 + ((1 : Int32))).toNatClampNeg)] [] hf (fun _ _ h => ctX6_count l G o_104 (xs (v4_1 + ((1 : Int32))).toNatClampNeg) h) ⟨rfl, rfl⟩ ⟨Nat.le_of_ble_eq_true rfl, Nat.le_of_ble_eq_true rfl⟩ ⟨by show _ ≤ 601024; omega, by show _ ≤ 7293034; omega⟩ rfl rfl hl.1 (Nat.le_of_ble_eq_true rfl) dL_law_1279 (fun r_105 o_106 H1 L1 P hf => ?_)
                                                refine r_istore C [(6, .int r_105), (5, .int r_103), (0, .ref b), (1, .ref (rA G 0 0)), (2, .ref (rA G 19 0)), (3, .ref (rA G 24 0)), (4, .int v4_1)] hl (by decide) rfl dL_law_1282 (fun ls hl => ?_)
                                                refine r_aload_n C hl 4 rfl rfl dL_law_1284 ?_
                                                refine r_qVi C P cf_L_95 (rm := rmX6_thrown) 19 0 (fun _ _ => ⟨_, rfl⟩) rfl rfl rfl [] [] hf (fun _ h => ctX6_thrown l G o_106 h) ⟨rfl, rfl⟩ ⟨Nat.le_of_ble_eq_true rfl, Nat.le_of_ble_eq_true rfl⟩ ⟨by show _ ≤ 601024; omega, by show _ ≤ 7293034; omega⟩ rfl rfl hl.1 (Nat.le_of_ble_eq_true rfl) dL_law_1285 (fun r_107 H1 L1 P hf => ?_)
                                                refine r_iload C hl 1 rfl dL_law_1288 ?_
                                                refine r_icmp_eq C dL_law_1290 hf (fun hf => ?_) (fun hf => ?_)
                                                · refine r_iload C hl 1 rfl dL_law_1295 ?_
                                                  refine r_jn (fun k1312 : Unit → Option Int32 => ∀ H1 L1 ls (cl sl : Nat), cl + n ≤ 601024 → sl + 6 * n ≤ 7293034 → Hp G o_106 s H1 L1 → lv_has ls 9 [(0, .ref b), (1, .ref (rA G 0 0)), (2, .ref (rA G 19 0)), (3, .ref (rA G 24 0)), (4, .int v4_1)] → k1312 () = some 1 → W p l e room_1 s m args below meth c H1 L1 cl sl Q (F0 m 1312 ls [])) hf ?_ (fun k1312 j1312 hf => ?_)
                                                  · intro  H1 L1 ls cl sl hc1 hc2  P hl hf
                                                    refine r_goto C dL_law_1312 ?_
                                                    exact j1642 o_106 _ _ _ _ _ (by omega) (by omega) P (lv_sub hl [0, 1, 2, 3, 4] rfl) hf
                                                  refine r_if_ne C dL_law_1297 hf (fun hf => ?_) (fun hf => ?_)
                                                  · exact j1312  _ _ _ _ _ (by omega) (by omega) P (lv_sub hl [2, 3, 4, 5, 6] rfl) hf
                                                  · refine r_aload_n C hl 5 rfl rfl dL_law_1300 ?_
                                                    refine r_iconst C (v := 0) (by decide) dL_law_1301 ?_
                                                    refine w_lald C P dL_law_1302 ?_
                                                    refine r_iload C hl 0 rfl dL_law_1303 ?_
                                                    refine r_i2l C dL_law_1305 ?_
                                                    refine r_lcmp C dL_law_1306 ?_
                                                    refine r_if_eq C dL_law_1307 hf (fun hf => ?_) (fun hf => ?_)
                                                    · exact j1312  _ _ _ _ _ (by omega) (by omega) P (lv_sub hl [2, 3, 4, 5, 6] rfl) hf
                                                    · refine r_iconst C (v := 0) (by decide) dL_law_1310 ?_
                                                      exact absurd (Option.some.inj hf) (by decide)
                                                · refine r_iconst C (v := 0) (by decide) dL_law_1293 ?_
                                                  exact absurd (Option.some.inj hf) (by decide)
                                              · refine r_ite hf (fun hc21 hf => ?_) (fun hc21 hf => ?_)
                                                · refine lv_tableIn C.1 C.2.1 (off := 1276) (tgt := 1315) dL_law_39.1 (by rw [hc21] <;> decide) (by rw [hc21] <;> decide) (by rw [hc21] <;> decide) rfl ?_
                                                  refine r_aload_n C hl 1 rfl rfl dL_law_1315 ?_
                                                  refine r_aload_n C hl 0 rfl rfl dL_law_1316 ?_
                                                  refine r_iload C hl 4 rfl dL_law_1317 ?_
                                                  refine r_iconst C (v := 1) (by decide) dL_law_1319 ?_
                                                  refine r_iadd2 C dL_law_1320 ?_
                                                  refine w_sld C hX hbl hbA P dL_law_1321 hf (fun hf => ?_)
                                                  refine r_aload_n C hl 0 rfl rfl dL_law_1322 ?_
                                                  refine r_iload C hl 4 rfl dL_law_1323 ?_
                                                  refine r_iconst C (v := 2) (by decide) dL_law_1325 ?_
                                                  refine r_iadd2 C dL_law_1326 ?_
                                                  refine w_sld C hX hbl hbA P dL_law_1327 hf (fun hf => ?_)
                                                  refine r_aload_n C hl 3 rfl rfl dL_law_1328 ?_
                                                  refine w_cS C X P cfw_164 (rm := rmL_whyNot) [.ref (rA G 0 0), .int (xs (v4_1 + ((1 : Int32))).toNatClampNeg), .int (xs (v4_1 + ((2 : Int32))).toNatClampNeg), .ref (rA G 24 0)] [] hf (fun _ _ h => ctL_whyNot l G hl9 o_2 (xs (v4_1 + ((1 : Int32))).toNatClampNeg) (xs (v4_1 + ((2 : Int32))).toNatClampNeg) h) ⟨Nat.le_of_ble_eq_true rfl, Nat.le_of_ble_eq_true rfl⟩ ⟨by show _ ≤ 601024; omega, by show _ ≤ 7293034; omega⟩ rfl rfl hl.1 (Nat.le_of_ble_eq_true rfl) dL_law_1329 (fun r_108 o_109 cl sl H1 L1 hb1 hb2 P hf => ?_)
                                                  refine r_istore C [(5, .int r_108), (0, .ref b), (1, .ref (rA G 0 0)), (2, .ref (rA G 19 0)), (3, .ref (rA G 24 0)), (4, .int v4_1)] hl (by decide) rfl dL_law_1332 (fun ls hl => ?_)
                                                  refine r_aload_n C hl 3 rfl rfl dL_law_1334 ?_
                                                  refine r_aload_n C hl 1 rfl rfl dL_law_1335 ?_
                                                  refine r_iload C hl 5 rfl dL_law_1336 ?_
                                                  refine r_iconst C (v := 1) (by decide) dL_law_1338 ?_
                                                  refine r_iadd2 C dL_law_1339 ?_
                                                  refine w_sld C hX hbl hbA P dL_law_1340 hf (fun hf => ?_)
                                                  refine r_aload_n C hl 1 rfl rfl dL_law_1341 ?_
                                                  refine r_iload C hl 5 rfl dL_law_1342 ?_
                                                  refine r_iconst C (v := 2) (by decide) dL_law_1344 ?_
                                                  refine r_iadd2 C dL_law_1345 ?_
                                                  refine w_sld C hX hbl hbA P dL_law_1346 hf (fun hf => ?_)
                                                  refine r_cVi C P cf_L_166 (rm := rmX6_whyNot) 19 0 (fun _ _ => ⟨_, rfl⟩) rfl rfl rfl [.int (xs (v4_1 + ((1 : Int32))).toNatClampNeg), .int (xs (v4_1 + ((2 : Int32))).toNatClampNeg)] [] hf (fun _ _ h => ctX6_whyNot l G o_109 (xs (v4_1 + ((1 : Int32))).toNatClampNeg) (xs (v4_1 + ((2 : Int32))).toNatClampNeg) h) ⟨rfl, rfl⟩ ⟨Nat.le_of_ble_eq_true rfl, Nat.le_of_ble_eq_true rfl⟩ ⟨by show _ ≤ 601024; omega, by show _ ≤ 7293034; omega⟩ rfl rfl hl.1 (Nat.le_of_ble_eq_true rfl) dL_law_1347 (fun r_110 o_111 H1 L1 P hf => ?_)
                                                  refine r_istore C [(6, .int r_110), (5, .int r_108), (0, .ref b), (1, .ref (rA G 0 0)), (2, .ref (rA G 19 0)), (3, .ref (rA G 24 0)), (4, .int v4_1)] hl (by decide) rfl dL_law_1350 (fun ls hl => ?_)
                                                  refine r_aload_n C hl 4 rfl rfl dL_law_1352 ?_
                                                  refine r_qVi C P cf_L_95 (rm := rmX6_thrown) 19 0 (fun _ _ => ⟨_, rfl⟩) rfl rfl rfl [] [] hf (fun _ h => ctX6_thrown l G o_111 h) ⟨rfl, rfl⟩ ⟨Nat.le_of_ble_eq_true rfl, Nat.le_of_ble_eq_true rfl⟩ ⟨by show _ ≤ 601024; omega, by show _ ≤ 7293034; omega⟩ rfl rfl hl.1 (Nat.le_of_ble_eq_true rfl) dL_law_1353 (fun r_112 H1 L1 P hf => ?_)
                                                  refine r_iload C hl 1 rfl dL_law_1356 ?_
                                                  refine r_icmp_eq C dL_law_1358 hf (fun hf => ?_) (fun hf => ?_)
                                                  · refine r_iload C hl 1 rfl dL_law_1363 ?_
                                                    refine r_jn (fun k1380 : Unit → Option Int32 => ∀ H1 L1 ls (cl sl : Nat), cl + n ≤ 601024 → sl + 6 * n ≤ 7293034 → Hp G o_111 s H1 L1 → lv_has ls 9 [(0, .ref b), (1, .ref (rA G 0 0)), (2, .ref (rA G 19 0)), (3, .ref (rA G 24 0)), (4, .int v4_1)] → k1380 () = some 1 → W p l e room_1 s m args below meth c H1 L1 cl sl Q (F0 m 1380 ls [])) hf ?_ (fun k1380 j1380 hf => ?_)
                                                    · intro  H1 L1 ls cl sl hc1 hc2  P hl hf
                                                      refine r_goto C dL_law_1380 ?_
                                                      exact j1642 o_111 _ _ _ _ _ (by omega) (by omega) P (lv_sub hl [0, 1, 2, 3, 4] rfl) hf
                                                    refine r_if_ne C dL_law_1365 hf (fun hf => ?_) (fun hf => ?_)
                                                    · exact j1380  _ _ _ _ _ (by omega) (by omega) P (lv_sub hl [2, 3, 4, 5, 6] rfl) hf
                                                    · refine r_aload_n C hl 5 rfl rfl dL_law_1368 ?_
                                                      refine r_iconst C (v := 0) (by decide) dL_law_1369 ?_
                                                      refine w_lald C P dL_law_1370 ?_
                                                      refine r_iload C hl 0 rfl dL_law_1371 ?_
                                                      refine r_i2l C dL_law_1373 ?_
                                                      refine r_lcmp C dL_law_1374 ?_
                                                      refine r_if_eq C dL_law_1375 hf (fun hf => ?_) (fun hf => ?_)
                                                      · exact j1380  _ _ _ _ _ (by omega) (by omega) P (lv_sub hl [2, 3, 4, 5, 6] rfl) hf
                                                      · refine r_iconst C (v := 0) (by decide) dL_law_1378 ?_
                                                        exact absurd (Option.some.inj hf) (by decide)
                                                  · refine r_iconst C (v := 0) (by decide) dL_law_1361 ?_
                                                    exact absurd (Option.some.inj hf) (by decide)
                                                · refine r_ite hf (fun hc22 hf => ?_) (fun hc22 hf => ?_)
                                                  · refine lv_tableIn C.1 C.2.1 (off := 1344) (tgt := 1383) dL_law_39.1 (by rw [hc22] <;> decide) (by rw [hc22] <;> decide) (by rw [hc22] <;> decide) rfl ?_
                                                    refine r_aload_n C hl 1 rfl rfl dL_law_1383 ?_
                                                    refine r_aload_n C hl 0 rfl rfl dL_law_1384 ?_
                                                    refine r_iload C hl 4 rfl dL_law_1385 ?_
                                                    refine r_iconst C (v := 1) (by decide) dL_law_1387 ?_
                                                    refine r_iadd2 C dL_law_1388 ?_
                                                    refine w_sld C hX hbl hbA P dL_law_1389 hf (fun hf => ?_)
                                                    refine r_aload_n C hl 0 rfl rfl dL_law_1390 ?_
                                                    refine r_iload C hl 4 rfl dL_law_1391 ?_
                                                    refine r_iconst C (v := 2) (by decide) dL_law_1393 ?_
                                                    refine r_iadd2 C dL_law_1394 ?_
                                                    refine w_sld C hX hbl hbA P dL_law_1395 hf (fun hf => ?_)
                                                    refine r_aload_n C hl 0 rfl rfl dL_law_1396 ?_
                                                    refine r_iload C hl 4 rfl dL_law_1397 ?_
                                                    refine r_iconst C (v := 3) (by decide) dL_law_1399 ?_
                                                    refine r_iadd2 C dL_law_1400 ?_
                                                    refine w_sld C hX hbl hbA P dL_law_1401 hf (fun hf => ?_)
                                                    refine r_aload_n C hl 3 rfl rfl dL_law_1402 ?_
                                                    refine w_cS C X P cfw_167 (rm := rmL_overlap) [.ref (rA G 0 0), .int (xs (v4_1 + ((1 : Int32))).toNatClampNeg), .int (xs (v4_1 + ((2 : Int32))).toNatClampNeg), .int (xs (v4_1 + ((3 : Int32))).toNatClampNeg), .ref (rA G 24 0)] [] hf (fun _ _ h => ctL_overlap l G hl9 o_2 (xs (v4_1 + ((1 : Int32))).toNatClampNeg) (xs (v4_1 + ((2 : Int32))).toNatClampNeg) (xs (v4_1 + ((3 : Int32))).toNatClampNeg) h) ⟨Nat.le_of_ble_eq_true rfl, Nat.le_of_ble_eq_true rfl⟩ ⟨by show _ ≤ 601024; omega, by show _ ≤ 7293034; omega⟩ rfl rfl hl.1 (Nat.le_of_ble_eq_true rfl) dL_law_1403 (fun r_113 o_114 cl sl H1 L1 hb1 hb2 P hf => ?_)
                                                    refine r_istore C [(5, .int r_113), (0, .ref b), (1, .ref (rA G 0 0)), (2, .ref (rA G 19 0)), (3, .ref (rA G 24 0)), (4, .int v4_1)] hl (by decide) rfl dL_law_1406 (fun ls hl => ?_)
                                                    refine r_aload_n C hl 3 rfl rfl dL_law_1408 ?_
                                                    refine r_aload_n C hl 1 rfl rfl dL_law_1409 ?_
                                                    refine r_iload C hl 5 rfl dL_law_1410 ?_
                                                    refine r_iconst C (v := 1) (by decide) dL_law_1412 ?_
                                                    refine r_iadd2 C dL_law_1413 ?_
                                                    refine w_sld C hX hbl hbA P dL_law_1414 hf (fun hf => ?_)
                                                    refine r_aload_n C hl 1 rfl rfl dL_law_1415 ?_
                                                    refine r_iload C hl 5 rfl dL_law_1416 ?_
                                                    refine r_iconst C (v := 2) (by decide) dL_law_1418 ?_
                                                    refine r_iadd2 C dL_law_1419 ?_
                                                    refine w_sld C hX hbl hbA P dL_law_1420 hf (fun hf => ?_)
                                                    refine r_aload_n C hl 1 rfl rfl dL_law_1421 ?_
                                                    refine r_iload C hl 5 rfl dL_law_1422 ?_
                                                    refine r_iconst C (v := 3) (by decide) dL_law_1424 ?_
                                                    refine r_iadd2 C dL_law_1425 ?_
                                                    refine w_sld C hX hbl hbA P dL_law_1426 hf (fun hf => ?_)
                                                    refine r_cVi C P cf_L_169 (rm := rmX6_overlap) 19 0 (fun _ _ => ⟨_, rfl⟩) rfl rfl rfl [.int (xs (v4_1 + ((1 : Int32))).toNatClampNeg), .int (xs (v4_1 + ((2 : Int32))).toNatClampNeg), .int (xs (v4_1 + ((3 : Int32))).toNatClampNeg)] [] hf (fun _ _ h => ctX6_overlap l G o_114 (xs (v4_1 + ((1 : Int32))).toNatClampNeg) (xs (v4_1 + ((2 : Int32))).toNatClampNeg) (xs (v4_1 + ((3 : Int32))).toNatClampNeg) h) ⟨rfl, rfl⟩ ⟨Nat.le_of_ble_eq_true rfl, Nat.le_of_ble_eq_true rfl⟩ ⟨by show _ ≤ 601024; omega, by show _ ≤ 7293034; omega⟩ rfl rfl hl.1 (Nat.le_of_ble_eq_true rfl) dL_law_1427 (fun r_115 o_116 H1 L1 P hf => ?_)
                                                    refine r_istore C [(6, .int r_115), (5, .int r_113), (0, .ref b), (1, .ref (rA G 0 0)), (2, .ref (rA G 19 0)), (3, .ref (rA G 24 0)), (4, .int v4_1)] hl (by decide) rfl dL_law_1430 (fun ls hl => ?_)
                                                    refine r_aload_n C hl 4 rfl rfl dL_law_1432 ?_
                                                    refine r_qVi C P cf_L_95 (rm := rmX6_thrown) 19 0 (fun _ _ => ⟨_, rfl⟩) rfl rfl rfl [] [] hf (fun _ h => ctX6_thrown l G o_116 h) ⟨rfl, rfl⟩ ⟨Nat.le_of_ble_eq_true rfl, Nat.le_of_ble_eq_true rfl⟩ ⟨by show _ ≤ 601024; omega, by show _ ≤ 7293034; omega⟩ rfl rfl hl.1 (Nat.le_of_ble_eq_true rfl) dL_law_1433 (fun r_117 H1 L1 P hf => ?_)
                                                    refine r_iload C hl 1 rfl dL_law_1436 ?_
                                                    refine r_icmp_eq C dL_law_1438 hf (fun hf => ?_) (fun hf => ?_)
                                                    · refine r_iload C hl 1 rfl dL_law_1443 ?_
                                                      refine r_jn (fun k1460 : Unit → Option Int32 => ∀ H1 L1 ls (cl sl : Nat), cl + n ≤ 601024 → sl + 6 * n ≤ 7293034 → Hp G o_116 s H1 L1 → lv_has ls 9 [(0, .ref b), (1, .ref (rA G 0 0)), (2, .ref (rA G 19 0)), (3, .ref (rA G 24 0)), (4, .int v4_1)] → k1460 () = some 1 → W p l e room_1 s m args below meth c H1 L1 cl sl Q (F0 m 1460 ls [])) hf ?_ (fun k1460 j1460 hf => ?_)
                                                      · intro  H1 L1 ls cl sl hc1 hc2  P hl hf
                                                        refine r_goto C dL_law_1460 ?_
                                                        exact j1642 o_116 _ _ _ _ _ (by omega) (by omega) P (lv_sub hl [0, 1, 2, 3, 4] rfl) hf
                                                      refine r_if_ne C dL_law_1445 hf (fun hf => ?_) (fun hf => ?_)
                                                      · exact j1460  _ _ _ _ _ (by omega) (by omega) P (lv_sub hl [2, 3, 4, 5, 6] rfl) hf
                                                      · refine r_aload_n C hl 5 rfl rfl dL_law_1448 ?_
                                                        refine r_iconst C (v := 0) (by decide) dL_law_1449 ?_
                                                        refine w_lald C P dL_law_1450 ?_
                                                        refine r_iload C hl 0 rfl dL_law_1451 ?_
                                                        refine r_i2l C dL_law_1453 ?_
                                                        refine r_lcmp C dL_law_1454 ?_
                                                        refine r_if_eq C dL_law_1455 hf (fun hf => ?_) (fun hf => ?_)
                                                        · exact j1460  _ _ _ _ _ (by omega) (by omega) P (lv_sub hl [2, 3, 4, 5, 6] rfl) hf
                                                        · refine r_iconst C (v := 0) (by decide) dL_law_1458 ?_
                                                          exact absurd (Option.some.inj hf) (by decide)
                                                    · refine r_iconst C (v := 0) (by decide) dL_law_1441 ?_
                                                      exact absurd (Option.some.inj hf) (by decide)
                                                  · refine r_ite hf (fun hc23 hf => ?_) (fun hc23 hf => ?_)
                                                    · refine lv_tableIn C.1 C.2.1 (off := 1424) (tgt := 1463) dL_law_39.1 (by rw [hc23] <;> decide) (by rw [hc23] <;> decide) (by rw [hc23] <;> decide) rfl ?_
                                                      refine r_aload_n C hl 1 rfl rfl dL_law_1463 ?_
                                                      refine r_aload_n C hl 0 rfl rfl dL_law_1464 ?_
                                                      refine r_iload C hl 4 rfl dL_law_1465 ?_
                                                      refine r_iconst C (v := 1) (by decide) dL_law_1467 ?_
                                                      refine r_iadd2 C dL_law_1468 ?_
                                                      refine w_sld C hX hbl hbA P dL_law_1469 hf (fun hf => ?_)
                                                      refine r_aload_n C hl 0 rfl rfl dL_law_1470 ?_
                                                      refine r_iload C hl 4 rfl dL_law_1471 ?_
                                                      refine r_iconst C (v := 2) (by decide) dL_law_1473 ?_
                                                      refine r_iadd2 C dL_law_1474 ?_
                                                      refine w_sld C hX hbl hbA P dL_law_1475 hf (fun hf => ?_)
                                                      refine r_aload_n C hl 3 rfl rfl dL_law_1476 ?_
                                                      refine w_cS C X P cfw_170 (rm := rmL_worstDegree) [.ref (rA G 0 0), .int (xs (v4_1 + ((1 : Int32))).toNatClampNeg), .int (xs (v4_1 + ((2 : Int32))).toNatClampNeg), .ref (rA G 24 0)] [] hf (fun _ _ h => ctL_worstDegree l G hl9 o_2 (xs (v4_1 + ((1 : Int32))).toNatClampNeg) (xs (v4_1 + ((2 : Int32))).toNatClampNeg) h) ⟨Nat.le_of_ble_eq_true rfl, Nat.le_of_ble_eq_true rfl⟩ ⟨by show _ ≤ 601024; omega, by show _ ≤ 7293034; omega⟩ rfl rfl hl.1 (Nat.le_of_ble_eq_true rfl) dL_law_1477 (fun r_118 o_119 cl sl H1 L1 hb1 hb2 P hf => ?_)
                                                      refine r_istore C [(5, .int r_118), (0, .ref b), (1, .ref (rA G 0 0)), (2, .ref (rA G 19 0)), (3, .ref (rA G 24 0)), (4, .int v4_1)] hl (by decide) rfl dL_law_1480 (fun ls hl => ?_)
                                                      refine r_aload_n C hl 3 rfl rfl dL_law_1482 ?_
                                                      refine r_aload_n C hl 1 rfl rfl dL_law_1483 ?_
                                                      refine r_iload C hl 5 rfl dL_law_1484 ?_
                                                      refine r_iconst C (v := 1) (by decide) dL_law_1486 ?_
                                                      refine r_iadd2 C dL_law_1487 ?_
                                                      refine w_sld C hX hbl hbA P dL_law_1488 hf (fun hf => ?_)
                                                      refine r_aload_n C hl 1 rfl rfl dL_law_1489 ?_
                                                      refine r_iload C hl 5 rfl dL_law_1490 ?_
                                                      refine r_iconst C (v := 2) (by decide) dL_law_1492 ?_
                                                      refine r_iadd2 C dL_law_1493 ?_
                                                      refine w_sld C hX hbl hbA P dL_law_1494 hf (fun hf => ?_)
                                                      refine r_cVi C P cf_L_172 (rm := rmX6_worstDegree) 19 0 (fun _ _ => ⟨_, rfl⟩) rfl rfl rfl [.int (xs (v4_1 + ((1 : Int32))).toNatClampNeg), .int (xs (v4_1 + ((2 : Int32))).toNatClampNeg)] [] hf (fun _ _ h => ctX6_worstDegree l G o_119 (xs (v4_1 + ((1 : Int32))).toNatClampNeg) (xs (v4_1 + ((2 : Int32))).toNatClampNeg) h) ⟨rfl, rfl⟩ ⟨Nat.le_of_ble_eq_true rfl, Nat.le_of_ble_eq_true rfl⟩ ⟨by show _ ≤ 601024; omega, by show _ ≤ 7293034; omega⟩ rfl rfl hl.1 (Nat.le_of_ble_eq_true rfl) dL_law_1495 (fun r_120 o_121 H1 L1 P hf => ?_)
                                                      refine r_istore C [(6, .int r_120), (5, .int r_118), (0, .ref b), (1, .ref (rA G 0 0)), (2, .ref (rA G 19 0)), (3, .ref (rA G 24 0)), (4, .int v4_1)] hl (by decide) rfl dL_law_1498 (fun ls hl => ?_)
                                                      refine r_aload_n C hl 4 rfl rfl dL_law_1500 ?_
                                                      refine r_qVi C P cf_L_95 (rm := rmX6_thrown) 19 0 (fun _ _ => ⟨_, rfl⟩) rfl rfl rfl [] [] hf (fun _ h => ctX6_thrown l G o_121 h) ⟨rfl, rfl⟩ ⟨Nat.le_of_ble_eq_true rfl, Nat.le_of_ble_eq_true rfl⟩ ⟨by show _ ≤ 601024; omega, by show _ ≤ 7293034; omega⟩ rfl rfl hl.1 (Nat.le_of_ble_eq_true rfl) dL_law_1501 (fun r_122 H1 L1 P hf => ?_)
                                                      refine r_iload C hl 1 rfl dL_law_1504 ?_
                                                      refine r_icmp_eq C dL_law_1506 hf (fun hf => ?_) (fun hf => ?_)
                                                      · refine r_iload C hl 1 rfl dL_law_1511 ?_
                                                        refine r_jn (fun k1528 : Unit → Option Int32 => ∀ H1 L1 ls (cl sl : Nat), cl + n ≤ 601024 → sl + 6 * n ≤ 7293034 → Hp G o_121 s H1 L1 → lv_has ls 9 [(0, .ref b), (1, .ref (rA G 0 0)), (2, .ref (rA G 19 0)), (3, .ref (rA G 24 0)), (4, .int v4_1)] → k1528 () = some 1 → W p l e room_1 s m args below meth c H1 L1 cl sl Q (F0 m 1528 ls [])) hf ?_ (fun k1528 j1528 hf => ?_)
                                                        · intro  H1 L1 ls cl sl hc1 hc2  P hl hf
                                                          refine r_goto C dL_law_1528 ?_
                                                          exact j1642 o_121 _ _ _ _ _ (by omega) (by omega) P (lv_sub hl [0, 1, 2, 3, 4] rfl) hf
                                                        refine r_if_ne C dL_law_1513 hf (fun hf => ?_) (fun hf => ?_)
                                                        · exact j1528  _ _ _ _ _ (by omega) (by omega) P (lv_sub hl [2, 3, 4, 5, 6] rfl) hf
                                                        · refine r_aload_n C hl 5 rfl rfl dL_law_1516 ?_
                                                          refine r_iconst C (v := 0) (by decide) dL_law_1517 ?_
                                                          refine w_lald C P dL_law_1518 ?_
                                                          refine r_iload C hl 0 rfl dL_law_1519 ?_
                                                          refine r_i2l C dL_law_1521 ?_
                                                          refine r_lcmp C dL_law_1522 ?_
                                                          refine r_if_eq C dL_law_1523 hf (fun hf => ?_) (fun hf => ?_)
                                                          · exact j1528  _ _ _ _ _ (by omega) (by omega) P (lv_sub hl [2, 3, 4, 5, 6] rfl) hf
                                                          · refine r_iconst C (v := 0) (by decide) dL_law_1526 ?_
                                                            exact absurd (Option.some.inj hf) (by decide)
                                                      · refine r_iconst C (v := 0) (by decide) dL_law_1509 ?_
                                                        exact absurd (Option.some.inj hf) (by decide)
                                                    · refine r_ite hf (fun hc24 hf => ?_) (fun hc24 hf => ?_)
                                                      · refine lv_tableIn C.1 C.2.1 (off := 1492) (tgt := 1531) dL_law_39.1 (by rw [hc24] <;> decide) (by rw [hc24] <;> decide) (by rw [hc24] <;> decide) rfl ?_
                                                        refine r_aload_n C hl 1 rfl rfl dL_law_1531 ?_
                                                        refine r_aload_n C hl 0 rfl rfl dL_law_1532 ?_
                                                        refine r_iload C hl 4 rfl dL_law_1533 ?_
                                                        refine r_iconst C (v := 1) (by decide) dL_law_1535 ?_
                                                        refine r_iadd2 C dL_law_1536 ?_
                                                        refine w_sld C hX hbl hbA P dL_law_1537 hf (fun hf => ?_)
                                                        refine r_aload_n C hl 3 rfl rfl dL_law_1538 ?_
                                                        refine w_cS C X P cfw_173 (rm := rmL_voidIn) [.ref (rA G 0 0), .int (xs (v4_1 + ((1 : Int32))).toNatClampNeg), .ref (rA G 24 0)] [] hf (fun _ _ h => ctL_voidIn l G hl9 o_2 (xs (v4_1 + ((1 : Int32))).toNatClampNeg) h) ⟨Nat.le_of_ble_eq_true rfl, Nat.le_of_ble_eq_true rfl⟩ ⟨by show _ ≤ 601024; omega, by show _ ≤ 7293034; omega⟩ rfl rfl hl.1 (Nat.le_of_ble_eq_true rfl) dL_law_1539 (fun r_123 o_124 cl sl H1 L1 hb1 hb2 P hf => ?_)
                                                        refine r_istore C [(5, .int r_123), (0, .ref b), (1, .ref (rA G 0 0)), (2, .ref (rA G 19 0)), (3, .ref (rA G 24 0)), (4, .int v4_1)] hl (by decide) rfl dL_law_1542 (fun ls hl => ?_)
                                                        refine r_aload_n C hl 3 rfl rfl dL_law_1544 ?_
                                                        refine r_aload_n C hl 1 rfl rfl dL_law_1545 ?_
                                                        refine r_iload C hl 5 rfl dL_law_1546 ?_
                                                        refine r_iconst C (v := 1) (by decide) dL_law_1548 ?_
                                                        refine r_iadd2 C dL_law_1549 ?_
                                                        refine w_sld C hX hbl hbA P dL_law_1550 hf (fun hf => ?_)
                                                        refine r_cVi C P cf_L_175 (rm := rmX6_voidIn) 19 0 (fun _ _ => ⟨_, rfl⟩) rfl rfl rfl [.int (xs (v4_1 + ((1 : Int32))).toNatClampNeg)] [] hf (fun _ _ h => ctX6_voidIn l G o_124 (xs (v4_1 + ((1 : Int32))).toNatClampNeg) h) ⟨rfl, rfl⟩ ⟨Nat.le_of_ble_eq_true rfl, Nat.le_of_ble_eq_true rfl⟩ ⟨by show _ ≤ 601024; omega, by show _ ≤ 7293034; omega⟩ rfl rfl hl.1 (Nat.le_of_ble_eq_true rfl) dL_law_1551 (fun r_125 o_126 H1 L1 P hf => ?_)
                                                        refine r_istore C [(6, .int r_125), (5, .int r_123), (0, .ref b), (1, .ref (rA G 0 0)), (2, .ref (rA G 19 0)), (3, .ref (rA G 24 0)), (4, .int v4_1)] hl (by decide) rfl dL_law_1554 (fun ls hl => ?_)
                                                        refine r_aload_n C hl 4 rfl rfl dL_law_1556 ?_
                                                        refine r_qVi C P cf_L_95 (rm := rmX6_thrown) 19 0 (fun _ _ => ⟨_, rfl⟩) rfl rfl rfl [] [] hf (fun _ h => ctX6_thrown l G o_126 h) ⟨rfl, rfl⟩ ⟨Nat.le_of_ble_eq_true rfl, Nat.le_of_ble_eq_true rfl⟩ ⟨by show _ ≤ 601024; omega, by show _ ≤ 7293034; omega⟩ rfl rfl hl.1 (Nat.le_of_ble_eq_true rfl) dL_law_1557 (fun r_127 H1 L1 P hf => ?_)
                                                        refine r_iload C hl 1 rfl dL_law_1560 ?_
                                                        refine r_icmp_eq C dL_law_1562 hf (fun hf => ?_) (fun hf => ?_)
                                                        · refine r_iload C hl 1 rfl dL_law_1567 ?_
                                                          refine r_jn (fun k1584 : Unit → Option Int32 => ∀ H1 L1 ls (cl sl : Nat), cl + n ≤ 601024 → sl + 6 * n ≤ 7293034 → Hp G o_126 s H1 L1 → lv_has ls 9 [(0, .ref b), (1, .ref (rA G 0 0)), (2, .ref (rA G 19 0)), (3, .ref (rA G 24 0)), (4, .int v4_1)] → k1584 () = some 1 → W p l e room_1 s m args below meth c H1 L1 cl sl Q (F0 m 1584 ls [])) hf ?_ (fun k1584 j1584 hf => ?_)
                                                          · intro  H1 L1 ls cl sl hc1 hc2  P hl hf
                                                            refine r_goto C dL_law_1584 ?_
                                                            exact j1642 o_126 _ _ _ _ _ (by omega) (by omega) P (lv_sub hl [0, 1, 2, 3, 4] rfl) hf
                                                          refine r_if_ne C dL_law_1569 hf (fun hf => ?_) (fun hf => ?_)
                                                          · exact j1584  _ _ _ _ _ (by omega) (by omega) P (lv_sub hl [2, 3, 4, 5, 6] rfl) hf
                                                          · refine r_aload_n C hl 5 rfl rfl dL_law_1572 ?_
                                                            refine r_iconst C (v := 0) (by decide) dL_law_1573 ?_
                                                            refine w_lald C P dL_law_1574 ?_
                                                            refine r_iload C hl 0 rfl dL_law_1575 ?_
                                                            refine r_i2l C dL_law_1577 ?_
                                                            refine r_lcmp C dL_law_1578 ?_
                                                            refine r_if_eq C dL_law_1579 hf (fun hf => ?_) (fun hf => ?_)
                                                            · exact j1584  _ _ _ _ _ (by omega) (by omega) P (lv_sub hl [2, 3, 4, 5, 6] rfl) hf
                                                            · refine r_iconst C (v := 0) (by decide) dL_law_1582 ?_
                                                              exact absurd (Option.some.inj hf) (by decide)
                                                        · refine r_iconst C (v := 0) (by decide) dL_law_1565 ?_
                                                          exact absurd (Option.some.inj hf) (by decide)
                                                      · refine r_ite hf (fun hc25 hf => ?_) (fun hc25 hf => ?_)
                                                        · refine lv_tableIn C.1 C.2.1 (off := 1548) (tgt := 1587) dL_law_39.1 (by rw [hc25] <;> decide) (by rw [hc25] <;> decide) (by rw [hc25] <;> decide) rfl ?_
                                                          refine r_aload_n C hl 1 rfl rfl dL_law_1587 ?_
                                                          refine r_qVd C P cf_L_176 (rm := rmX5_validShare) 0 0 (fun _ _ => ⟨_, rfl⟩) rfl rfl rfl [] [] hf (fun _ h => ctX5_validShare l G o_2 h) ⟨rfl, rfl⟩ ⟨Nat.le_of_ble_eq_true rfl, Nat.le_of_ble_eq_true rfl⟩ ⟨by show _ ≤ 601024; omega, by show _ ≤ 7293034; omega⟩ rfl rfl hl.1 (Nat.le_of_ble_eq_true rfl) dL_law_1588 (fun r_128 H1 L1 P hf => ?_)
                                                          refine r_dstore C [(5, .double r_128), (0, .ref b), (1, .ref (rA G 0 0)), (2, .ref (rA G 19 0)), (3, .ref (rA G 24 0)), (4, .int v4_1)] hl (by decide) rfl dL_law_1591 (fun ls hl => ?_)
                                                          refine r_aload_n C hl 3 rfl rfl dL_law_1593 ?_
                                                          refine r_cVd C P cf_L_180 (rm := rmX6_validShare) 19 0 (fun _ _ => ⟨_, rfl⟩) rfl rfl rfl [] [] hf (fun _ _ h => ctX6_validShare l G o_2 h) ⟨rfl, rfl⟩ ⟨Nat.le_of_ble_eq_true rfl, Nat.le_of_ble_eq_true rfl⟩ ⟨by show _ ≤ 601024; omega, by show _ ≤ 7293034; omega⟩ rfl rfl hl.1 (Nat.le_of_ble_eq_true rfl) dL_law_1594 (fun r_129 o_130 H1 L1 P hf => ?_)
                                                          refine r_dstore C [(7, .double r_129), (5, .double r_128), (0, .ref b), (1, .ref (rA G 0 0)), (2, .ref (rA G 19 0)), (3, .ref (rA G 24 0)), (4, .int v4_1)] hl (by decide) rfl dL_law_1597 (fun ls hl => ?_)
                                                          refine r_dload C hl 1 rfl dL_law_1599 ?_
                                                          refine r_dload C hl 0 rfl dL_law_1601 ?_
                                                          refine r_dcmp C dL_law_1603 ?_
                                                          refine r_jn (fun k1625 : Unit → Option Int32 => ∀ H1 L1 ls (cl sl : Nat), cl + n ≤ 601024 → sl + 6 * n ≤ 7293034 → Hp G o_130 s H1 L1 → lv_has ls 9 [(0, .ref b), (1, .ref (rA G 0 0)), (2, .ref (rA G 19 0)), (3, .ref (rA G 24 0)), (4, .int v4_1)] → k1625 () = some 1 → W p l e room_1 s m args below meth c H1 L1 cl sl Q (F0 m 1625 ls [])) hf ?_ (fun k1625 j1625 hf => ?_)
                                                          · intro  H1 L1 ls cl sl hc1 hc2  P hl hf
                                                            refine r_goto C dL_law_1625 ?_
                                                            exact j1642 o_130 _ _ _ _ _ (by omega) (by omega) P (lv_sub hl [0, 1, 2, 3, 4] rfl) hf
                                                          refine r_if_eq C dL_law_1604 hf (fun hf => ?_) (fun hf => ?_)
                                                          · exact j1625  _ _ _ _ _ (by omega) (by omega) P (lv_sub hl [2, 3, 4, 5, 6] rfl) hf
                                                          · refine r_dload C hl 1 rfl dL_law_1607 ?_
                                                            refine r_dload C hl 1 rfl dL_law_1609 ?_
                                                            refine r_dcmp C dL_law_1611 ?_
                                                            refine r_jn (fun k1623 : Unit → Option Int32 => ∀ H1 L1 ls (cl sl : Nat), cl + n ≤ 601024 → sl + 6 * n ≤ 7293034 → Hp G o_130 s H1 L1 → lv_has ls 9 [] → k1623 () = some 1 → W p l e room_1 s m args below meth c H1 L1 cl sl Q (F0 m 1623 ls [])) hf ?_ (fun k1623 j1623 hf => ?_)
                                                            · intro  H1 L1 ls cl sl hc1 hc2  P hl hf
                                                              refine r_iconst C (v := 0) (by decide) dL_law_1623 ?_
                                                              exact absurd (Option.some.inj hf) (by decide)
                                                            refine r_if_eq C dL_law_1612 hf (fun hf => ?_) (fun hf => ?_)
                                                            · exact j1623  _ _ _ _ _ (by omega) (by omega) P (lv_sub hl [] rfl) hf
                                                            · refine r_dload C hl 0 rfl dL_law_1615 ?_
                                                              refine r_dload C hl 0 rfl dL_law_1617 ?_
                                                              refine r_dcmp C dL_law_1619 ?_
                                                              refine r_if_ne C dL_law_1620 hf (fun hf => ?_) (fun hf => ?_)
                                                              · exact j1625  _ _ _ _ _ (by omega) (by omega) P (lv_sub hl [2, 3, 4, 5, 6] rfl) hf
                                                              · exact j1623  _ _ _ _ _ (by omega) (by omega) P (lv_sub hl [] rfl) hf
                                                        · refine r_ite hf (fun hc26 hf => ?_) (fun hc26 hf => ?_)
                                                          · refine lv_tableIn C.1 C.2.1 (off := 1589) (tgt := 1628) dL_law_39.1 (by rw [hc26] <;> decide) (by rw [hc26] <;> decide) (by rw [hc26] <;> decide) rfl ?_
                                                            refine r_aload_n C hl 1 rfl rfl dL_law_1628 ?_
                                                            refine w_cD C X hl9 P cf_L_181 [] hf ⟨Nat.le_of_ble_eq_true rfl, Nat.le_of_ble_eq_true rfl⟩ ⟨by show _ ≤ 601024; omega, by show _ ≤ 7293034; omega⟩ hl.1 (Nat.le_of_ble_eq_true rfl) dL_law_1629 (fun r_131 o_132 H1 L1 P hf => ?_)
                                                            refine r_aload_n C hl 2 rfl rfl dL_law_1632 ?_
                                                            refine r_cVl C P cf_L_185 (rm := rmX6_digest) 19 0 (fun _ _ => ⟨_, rfl⟩) rfl rfl rfl [] [.long r_131] hf (fun _ _ h => ctX6_digest l G o_132 h) ⟨rfl, rfl⟩ ⟨Nat.le_of_ble_eq_true rfl, Nat.le_of_ble_eq_true rfl⟩ ⟨by show _ ≤ 601024; omega, by show _ ≤ 7293034; omega⟩ rfl rfl hl.1 (Nat.le_of_ble_eq_true rfl) dL_law_1633 (fun r_133 o_134 H1 L1 P hf => ?_)
                                                            refine r_lcmp C dL_law_1636 ?_
                                                            refine r_if_eq C dL_law_1637 hf (fun hf => ?_) (fun hf => ?_)
                                                            · exact j1642 o_134 _ _ _ _ _ (by omega) (by omega) P (lv_sub hl [0, 1, 2, 3, 4] rfl) hf
                                                            · refine r_iconst C (v := 0) (by decide) dL_law_1640 ?_
                                                              exact absurd (Option.some.inj hf) (by decide)
                                                          · refine lv_tableOut C.1 C.2.1 (tgt := 1642) dL_law_39.1 (by have q0 := lv_neT hc0 (a := 0) rfl; have q1 := lv_neT hc1 (a := 1) rfl; have q2 := lv_neT hc2 (a := 2) rfl; have q3 := lv_neT hc3 (a := 3) rfl; have q4 := lv_neT hc4 (a := 4) rfl; have q5 := lv_neT hc5 (a := 5) rfl; have q6 := lv_neT hc6 (a := 6) rfl; have q7 := lv_neT hc7 (a := 7) rfl; have q8 := lv_neT hc8 (a := 8) rfl; have q9 := lv_neT hc9 (a := 9) rfl; have q10 := lv_neT hc10 (a := 10) rfl; have q11 := lv_neT hc11 (a := 11) rfl; have q12 := lv_neT hc12 (a := 12) rfl; have q13 := lv_neT hc13 (a := 13) rfl; have q14 := lv_neT hc14 (a := 14) rfl; have q15 := lv_neT hc15 (a := 15) rfl; have q16 := lv_neT hc16 (a := 16) rfl; have q17 := lv_neT hc17 (a := 17) rfl; have q18 := lv_neT hc18 (a := 18) rfl; have q19 := lv_neT hc19 (a := 19) rfl; have q20 := lv_neT hc20 (a := 20) rfl; have q21 := lv_neT hc21 (a := 21) rfl; have q22 := lv_neT hc22 (a := 22) rfl; have q23 := lv_neT hc23 (a := 23) rfl; have q24 := lv_neT hc24 (a := 24) rfl; have q25 := lv_neT hc25 (a := 25) rfl; have q26 := lv_neT hc26 (a := 26) rfl; omega) rfl ?_
                                                            exact j1642 o_2 _ _ _ _ _ (by omega) (by omega) P (lv_sub hl [0, 1, 2, 3, 4] rfl) hf
