theorem cf_L_58 : CallF false RL 58 yX5_stopped cX5_stopped 2 (some .int) 1 := ⟨wd_565, (by rw [if_neg (by decide)]; exact ⟨wd_566, wd_567⟩), wd_10, wd_568, by decide, by decide +kernel⟩
theorem dL_areAlike_0 : Dc cL_areAlike 0 (.aload_n 0) 1 1 := ⟨by decide +kernel, rfl⟩
theorem dL_areAlike_1 : Dc cL_areAlike 1 (.iconst 0) 1 2 := ⟨by decide +kernel, rfl⟩
theorem dL_areAlike_2 : Dc cL_areAlike 2 (.invokevirtual 58) 3 5 := ⟨by decide +kernel, rfl⟩
theorem dL_areAlike_5 : Dc cL_areAlike 5 (.aload_n 1) 1 6 := ⟨by decide +kernel, rfl⟩
theorem dL_areAlike_6 : Dc cL_areAlike 6 (.iconst 0) 1 7 := ⟨by decide +kernel, rfl⟩
theorem dL_areAlike_7 : Dc cL_areAlike 7 (.invokevirtual 58) 3 10 := ⟨by decide +kernel, rfl⟩
theorem dL_areAlike_10 : Dj cL_areAlike 10 (.if_icmp .ne 7) 3 13 (7) 17 := ⟨by decide +kernel, rfl, by decide⟩
theorem dL_areAlike_13 : Dc cL_areAlike 13 (.iconst 1) 1 14 := ⟨by decide +kernel, rfl⟩
theorem dL_areAlike_14 : Dj cL_areAlike 14 (.goto 4) 3 17 (4) 18 := ⟨by decide +kernel, rfl, by decide⟩
theorem dL_areAlike_17 : Dc cL_areAlike 17 (.iconst 0) 1 18 := ⟨by decide +kernel, rfl⟩
theorem dL_areAlike_18 : Dc cL_areAlike 18 (.istore_n 2) 1 19 := ⟨by decide +kernel, rfl⟩
theorem dL_areAlike_19 : Dc cL_areAlike 19 (.iconst 0) 1 20 := ⟨by decide +kernel, rfl⟩
theorem dL_areAlike_20 : Dc cL_areAlike 20 (.istore_n 3) 1 21 := ⟨by decide +kernel, rfl⟩
theorem dL_areAlike_21 : Dc cL_areAlike 21 (.iload_n 3) 1 22 := ⟨by decide +kernel, rfl⟩
theorem dL_areAlike_22 : Dc cL_areAlike 22 (.bipush 17) 2 24 := ⟨by decide +kernel, rfl⟩
theorem dL_areAlike_24 : Dj cL_areAlike 24 (.if_icmp .ge 32) 3 27 (32) 56 := ⟨by decide +kernel, rfl, by decide⟩
theorem dL_areAlike_27 : Dc cL_areAlike 27 (.iload_n 2) 1 28 := ⟨by decide +kernel, rfl⟩
theorem dL_areAlike_28 : Dj cL_areAlike 28 (.ifCond .eq 20) 3 31 (20) 48 := ⟨by decide +kernel, rfl, by decide⟩
theorem dL_areAlike_31 : Dc cL_areAlike 31 (.aload_n 0) 1 32 := ⟨by decide +kernel, rfl⟩
theorem dL_areAlike_32 : Dc cL_areAlike 32 (.iload_n 3) 1 33 := ⟨by decide +kernel, rfl⟩
theorem dL_areAlike_33 : Dc cL_areAlike 33 (.invokevirtual 48) 3 36 := ⟨by decide +kernel, rfl⟩
theorem dL_areAlike_36 : Dc cL_areAlike 36 (.aload_n 1) 1 37 := ⟨by decide +kernel, rfl⟩
theorem dL_areAlike_37 : Dc cL_areAlike 37 (.iload_n 3) 1 38 := ⟨by decide +kernel, rfl⟩
theorem dL_areAlike_38 : Dc cL_areAlike 38 (.invokevirtual 48) 3 41 := ⟨by decide +kernel, rfl⟩
theorem dL_areAlike_41 : Dj cL_areAlike 41 (.if_icmp .ne 7) 3 44 (7) 48 := ⟨by decide +kernel, rfl, by decide⟩
theorem dL_areAlike_44 : Dc cL_areAlike 44 (.iconst 1) 1 45 := ⟨by decide +kernel, rfl⟩
theorem dL_areAlike_45 : Dj cL_areAlike 45 (.goto 4) 3 48 (4) 49 := ⟨by decide +kernel, rfl, by decide⟩
theorem dL_areAlike_48 : Dc cL_areAlike 48 (.iconst 0) 1 49 := ⟨by decide +kernel, rfl⟩
theorem dL_areAlike_49 : Dc cL_areAlike 49 (.istore_n 2) 1 50 := ⟨by decide +kernel, rfl⟩
theorem dL_areAlike_50 : Dc cL_areAlike 50 (.iinc 3 1) 3 53 := ⟨by decide +kernel, rfl⟩
theorem dL_areAlike_53 : Dj cL_areAlike 53 (.goto (-32)) 3 56 (-32) 21 := ⟨by decide +kernel, rfl, by decide⟩
theorem dL_areAlike_56 : Dc cL_areAlike 56 (.iconst 0) 1 57 := ⟨by decide +kernel, rfl⟩
theorem dL_areAlike_57 : Dc cL_areAlike 57 (.istore_n 3) 1 58 := ⟨by decide +kernel, rfl⟩
theorem dL_areAlike_58 : Dc cL_areAlike 58 (.iload_n 3) 1 59 := ⟨by decide +kernel, rfl⟩
theorem dL_areAlike_59 : Dc cL_areAlike 59 (.bipush 9) 2 61 := ⟨by decide +kernel, rfl⟩
theorem dL_areAlike_61 : Dc cL_areAlike 61 (.aload_n 0) 1 62 := ⟨by decide +kernel, rfl⟩
theorem dL_areAlike_62 : Dc cL_areAlike 62 (.iconst 1) 1 63 := ⟨by decide +kernel, rfl⟩
theorem dL_areAlike_63 : Dc cL_areAlike 63 (.invokevirtual 48) 3 66 := ⟨by decide +kernel, rfl⟩
theorem dL_areAlike_66 : Dc cL_areAlike 66 (.imul) 1 67 := ⟨by decide +kernel, rfl⟩
theorem dL_areAlike_67 : Dj cL_areAlike 67 (.if_icmp .ge 46) 3 70 (46) 113 := ⟨by decide +kernel, rfl, by decide⟩
theorem dL_areAlike_70 : Dc cL_areAlike 70 (.iload_n 2) 1 71 := ⟨by decide +kernel, rfl⟩
theorem dL_areAlike_71 : Dj cL_areAlike 71 (.ifCond .eq 34) 3 74 (34) 105 := ⟨by decide +kernel, rfl, by decide⟩
theorem dL_areAlike_74 : Dc cL_areAlike 74 (.aload_n 0) 1 75 := ⟨by decide +kernel, rfl⟩
theorem dL_areAlike_75 : Dc cL_areAlike 75 (.iload_n 3) 1 76 := ⟨by decide +kernel, rfl⟩
theorem dL_areAlike_76 : Dc cL_areAlike 76 (.bipush 9) 2 78 := ⟨by decide +kernel, rfl⟩
theorem dL_areAlike_78 : Dc cL_areAlike 78 (.idiv) 1 79 := ⟨by decide +kernel, rfl⟩
theorem dL_areAlike_79 : Dc cL_areAlike 79 (.iload_n 3) 1 80 := ⟨by decide +kernel, rfl⟩
theorem dL_areAlike_80 : Dc cL_areAlike 80 (.bipush 9) 2 82 := ⟨by decide +kernel, rfl⟩
theorem dL_areAlike_82 : Dc cL_areAlike 82 (.irem) 1 83 := ⟨by decide +kernel, rfl⟩
theorem dL_areAlike_83 : Dc cL_areAlike 83 (.invokevirtual 61) 3 86 := ⟨by decide +kernel, rfl⟩
theorem dL_areAlike_86 : Dc cL_areAlike 86 (.aload_n 1) 1 87 := ⟨by decide +kernel, rfl⟩
theorem dL_areAlike_87 : Dc cL_areAlike 87 (.iload_n 3) 1 88 := ⟨by decide +kernel, rfl⟩
theorem dL_areAlike_88 : Dc cL_areAlike 88 (.bipush 9) 2 90 := ⟨by decide +kernel, rfl⟩
theorem dL_areAlike_90 : Dc cL_areAlike 90 (.idiv) 1 91 := ⟨by decide +kernel, rfl⟩
theorem dL_areAlike_91 : Dc cL_areAlike 91 (.iload_n 3) 1 92 := ⟨by decide +kernel, rfl⟩
theorem dL_areAlike_92 : Dc cL_areAlike 92 (.bipush 9) 2 94 := ⟨by decide +kernel, rfl⟩
theorem dL_areAlike_94 : Dc cL_areAlike 94 (.irem) 1 95 := ⟨by decide +kernel, rfl⟩
theorem dL_areAlike_95 : Dc cL_areAlike 95 (.invokevirtual 61) 3 98 := ⟨by decide +kernel, rfl⟩
theorem dL_areAlike_98 : Dj cL_areAlike 98 (.if_icmp .ne 7) 3 101 (7) 105 := ⟨by decide +kernel, rfl, by decide⟩
theorem dL_areAlike_101 : Dc cL_areAlike 101 (.iconst 1) 1 102 := ⟨by decide +kernel, rfl⟩
theorem dL_areAlike_102 : Dj cL_areAlike 102 (.goto 4) 3 105 (4) 106 := ⟨by decide +kernel, rfl, by decide⟩
theorem dL_areAlike_105 : Dc cL_areAlike 105 (.iconst 0) 1 106 := ⟨by decide +kernel, rfl⟩
theorem dL_areAlike_106 : Dc cL_areAlike 106 (.istore_n 2) 1 107 := ⟨by decide +kernel, rfl⟩
theorem dL_areAlike_107 : Dc cL_areAlike 107 (.iinc 3 1) 3 110 := ⟨by decide +kernel, rfl⟩
theorem dL_areAlike_110 : Dj cL_areAlike 110 (.goto (-52)) 3 113 (-52) 58 := ⟨by decide +kernel, rfl, by decide⟩
theorem dL_areAlike_113 : Dc cL_areAlike 113 (.iconst 0) 1 114 := ⟨by decide +kernel, rfl⟩
theorem dL_areAlike_114 : Dc cL_areAlike 114 (.istore_n 3) 1 115 := ⟨by decide +kernel, rfl⟩
theorem dL_areAlike_115 : Dc cL_areAlike 115 (.iload_n 3) 1 116 := ⟨by decide +kernel, rfl⟩
theorem dL_areAlike_116 : Dc cL_areAlike 116 (.bipush 40) 2 118 := ⟨by decide +kernel, rfl⟩
theorem dL_areAlike_118 : Dc cL_areAlike 118 (.aload_n 0) 1 119 := ⟨by decide +kernel, rfl⟩
theorem dL_areAlike_119 : Dc cL_areAlike 119 (.iconst 1) 1 120 := ⟨by decide +kernel, rfl⟩
theorem dL_areAlike_120 : Dc cL_areAlike 120 (.invokevirtual 48) 3 123 := ⟨by decide +kernel, rfl⟩
theorem dL_areAlike_123 : Dc cL_areAlike 123 (.imul) 1 124 := ⟨by decide +kernel, rfl⟩
theorem dL_areAlike_124 : Dj cL_areAlike 124 (.if_icmp .ge 56) 3 127 (56) 180 := ⟨by decide +kernel, rfl, by decide⟩
theorem dL_areAlike_127 : Dc cL_areAlike 127 (.iload_n 2) 1 128 := ⟨by decide +kernel, rfl⟩
theorem dL_areAlike_128 : Dj cL_areAlike 128 (.ifCond .eq 44) 3 131 (44) 172 := ⟨by decide +kernel, rfl, by decide⟩
theorem dL_areAlike_131 : Dc cL_areAlike 131 (.aload_n 0) 1 132 := ⟨by decide +kernel, rfl⟩
theorem dL_areAlike_132 : Dc cL_areAlike 132 (.iload_n 3) 1 133 := ⟨by decide +kernel, rfl⟩
theorem dL_areAlike_133 : Dc cL_areAlike 133 (.bipush 40) 2 135 := ⟨by decide +kernel, rfl⟩
theorem dL_areAlike_135 : Dc cL_areAlike 135 (.idiv) 1 136 := ⟨by decide +kernel, rfl⟩
theorem dL_areAlike_136 : Dc cL_areAlike 136 (.iload_n 3) 1 137 := ⟨by decide +kernel, rfl⟩
theorem dL_areAlike_137 : Dc cL_areAlike 137 (.iconst 4) 1 138 := ⟨by decide +kernel, rfl⟩
theorem dL_areAlike_138 : Dc cL_areAlike 138 (.idiv) 1 139 := ⟨by decide +kernel, rfl⟩
theorem dL_areAlike_139 : Dc cL_areAlike 139 (.bipush 10) 2 141 := ⟨by decide +kernel, rfl⟩
theorem dL_areAlike_141 : Dc cL_areAlike 141 (.irem) 1 142 := ⟨by decide +kernel, rfl⟩
theorem dL_areAlike_142 : Dc cL_areAlike 142 (.iload_n 3) 1 143 := ⟨by decide +kernel, rfl⟩
theorem dL_areAlike_143 : Dc cL_areAlike 143 (.iconst 4) 1 144 := ⟨by decide +kernel, rfl⟩
theorem dL_areAlike_144 : Dc cL_areAlike 144 (.irem) 1 145 := ⟨by decide +kernel, rfl⟩
theorem dL_areAlike_145 : Dc cL_areAlike 145 (.invokevirtual 64) 3 148 := ⟨by decide +kernel, rfl⟩
theorem dL_areAlike_148 : Dc cL_areAlike 148 (.aload_n 1) 1 149 := ⟨by decide +kernel, rfl⟩
theorem dL_areAlike_149 : Dc cL_areAlike 149 (.iload_n 3) 1 150 := ⟨by decide +kernel, rfl⟩
theorem dL_areAlike_150 : Dc cL_areAlike 150 (.bipush 40) 2 152 := ⟨by decide +kernel, rfl⟩
theorem dL_areAlike_152 : Dc cL_areAlike 152 (.idiv) 1 153 := ⟨by decide +kernel, rfl⟩
theorem dL_areAlike_153 : Dc cL_areAlike 153 (.iload_n 3) 1 154 := ⟨by decide +kernel, rfl⟩
theorem dL_areAlike_154 : Dc cL_areAlike 154 (.iconst 4) 1 155 := ⟨by decide +kernel, rfl⟩
theorem dL_areAlike_155 : Dc cL_areAlike 155 (.idiv) 1 156 := ⟨by decide +kernel, rfl⟩
theorem dL_areAlike_156 : Dc cL_areAlike 156 (.bipush 10) 2 158 := ⟨by decide +kernel, rfl⟩
theorem dL_areAlike_158 : Dc cL_areAlike 158 (.irem) 1 159 := ⟨by decide +kernel, rfl⟩
theorem dL_areAlike_159 : Dc cL_areAlike 159 (.iload_n 3) 1 160 := ⟨by decide +kernel, rfl⟩
theorem dL_areAlike_160 : Dc cL_areAlike 160 (.iconst 4) 1 161 := ⟨by decide +kernel, rfl⟩
theorem dL_areAlike_161 : Dc cL_areAlike 161 (.irem) 1 162 := ⟨by decide +kernel, rfl⟩
theorem dL_areAlike_162 : Dc cL_areAlike 162 (.invokevirtual 64) 3 165 := ⟨by decide +kernel, rfl⟩
theorem dL_areAlike_165 : Dj cL_areAlike 165 (.if_icmp .ne 7) 3 168 (7) 172 := ⟨by decide +kernel, rfl, by decide⟩
theorem dL_areAlike_168 : Dc cL_areAlike 168 (.iconst 1) 1 169 := ⟨by decide +kernel, rfl⟩
theorem dL_areAlike_169 : Dj cL_areAlike 169 (.goto 4) 3 172 (4) 173 := ⟨by decide +kernel, rfl, by decide⟩
theorem dL_areAlike_172 : Dc cL_areAlike 172 (.iconst 0) 1 173 := ⟨by decide +kernel, rfl⟩
theorem dL_areAlike_173 : Dc cL_areAlike 173 (.istore_n 2) 1 174 := ⟨by decide +kernel, rfl⟩
theorem dL_areAlike_174 : Dc cL_areAlike 174 (.iinc 3 1) 3 177 := ⟨by decide +kernel, rfl⟩
theorem dL_areAlike_177 : Dj cL_areAlike 177 (.goto (-62)) 3 180 (-62) 115 := ⟨by decide +kernel, rfl, by decide⟩
theorem dL_areAlike_180 : Dc cL_areAlike 180 (.iload_n 2) 1 181 := ⟨by decide +kernel, rfl⟩
theorem dL_areAlike_181 : Dc cL_areAlike 181 (.ireturn) 1 182 := ⟨by decide +kernel, rfl⟩
def LL_areAlike_115 (k180 : OM2 → Int32 → Option (Int32 × OM2)) : Nat → OM2 → Int32 → Int32 → Option (Int32 × OM2)
  | 0 => fun _ _ _ => none
  | n + 1 => fun o_14 v2_12 v3_13 => b0 (on1 (F_X5_count o_14.1 ((1 : Int32))) o_14) (fun r_15 o_16 => if (((40 : Int32)) * r_15) ≤ v3_13 then (k180 o_16 v2_12) else (bd (fun (o_18 : OM2) (s_17 : Int32) => bd (v3_13 + (1 : Int32)) (fun v3_19 : Int32 => (LL_areAlike_115 k180 n) o_18 s_17 v3_19)) (fun k173 => bd (fun (o_20 : OM2) => k173 o_20 ((0 : Int32))) (fun k172 => if v2_12 = 0 then (k172 o_16) else (grd (decide (¬ ((40 : Int32)) = 0)) (grd (decide (¬ ((4 : Int32)) = 0)) (grd (decide (¬ ((10 : Int32)) = 0)) (grd (decide (¬ ((4 : Int32)) = 0)) (b0 (on1 (F_X5_point o_16.1 (v3_13 / ((40 : Int32))) ((v3_13 / ((4 : Int32))) - (v3_13 / ((4 : Int32))) / ((10 : Int32)) * ((10 : Int32))) (v3_13 - v3_13 / ((4 : Int32)) * ((4 : Int32)))) o_16) (fun r_21 o_22 => grd (decide (¬ ((40 : Int32)) = 0)) (grd (decide (¬ ((4 : Int32)) = 0)) (grd (decide (¬ ((10 : Int32)) = 0)) (grd (decide (¬ ((4 : Int32)) = 0)) (b0 (on2 (F_X5_point o_22.2 (v3_13 / ((40 : Int32))) ((v3_13 / ((4 : Int32))) - (v3_13 / ((4 : Int32))) / ((10 : Int32)) * ((10 : Int32))) (v3_13 - v3_13 / ((4 : Int32)) * ((4 : Int32)))) o_22) (fun r_23 o_24 => if r_21 = r_23 then (k173 o_24 ((1 : Int32))) else (k172 o_24))))))))))))))))
def LL_areAlike_58 (k113 : OM2 → Int32 → Option (Int32 × OM2)) : Nat → OM2 → Int32 → Int32 → Option (Int32 × OM2)
  | 0 => fun _ _ _ => none
  | n + 1 => fun o_27 v2_25 v3_26 => b0 (on1 (F_X5_count o_27.1 ((1 : Int32))) o_27) (fun r_28 o_29 => if (((9 : Int32)) * r_28) ≤ v3_26 then (k113 o_29 v2_25) else (bd (fun (o_31 : OM2) (s_30 : Int32) => bd (v3_26 + (1 : Int32)) (fun v3_32 : Int32 => (LL_areAlike_58 k113 n) o_31 s_30 v3_32)) (fun k106 => bd (fun (o_33 : OM2) => k106 o_33 ((0 : Int32))) (fun k105 => if v2_25 = 0 then (k105 o_29) else (grd (decide (¬ ((9 : Int32)) = 0)) (grd (decide (¬ ((9 : Int32)) = 0)) (b0 (on1 (F_X5_thermometer o_29.1 (v3_26 / ((9 : Int32))) (v3_26 - v3_26 / ((9 : Int32)) * ((9 : Int32)))) o_29) (fun r_34 o_35 => grd (decide (¬ ((9 : Int32)) = 0)) (grd (decide (¬ ((9 : Int32)) = 0)) (b0 (on2 (F_X5_thermometer o_35.2 (v3_26 / ((9 : Int32))) (v3_26 - v3_26 / ((9 : Int32)) * ((9 : Int32)))) o_35) (fun r_36 o_37 => if r_34 = r_36 then (k106 o_37 ((1 : Int32))) else (k105 o_37))))))))))))
def LL_areAlike_21 (k56 : OM2 → Int32 → Option (Int32 × OM2)) : Nat → OM2 → Int32 → Int32 → Option (Int32 × OM2)
  | 0 => fun _ _ _ => none
  | n + 1 => fun o_40 v2_38 v3_39 => if ((17 : Int32)) ≤ v3_39 then (k56 o_40 v2_38) else (bd (fun (o_42 : OM2) (s_41 : Int32) => bd (v3_39 + (1 : Int32)) (fun v3_43 : Int32 => (LL_areAlike_21 k56 n) o_42 s_41 v3_43)) (fun k49 => bd (fun (o_44 : OM2) => k49 o_44 ((0 : Int32))) (fun k48 => if v2_38 = 0 then (k48 o_40) else (b0 (on1 (F_X5_count o_40.1 v3_39) o_40) (fun r_45 o_46 => b0 (on2 (F_X5_count o_46.2 v3_39) o_46) (fun r_47 o_48 => if r_45 = r_47 then (k49 o_48 ((1 : Int32))) else (k48 o_48)))))))
def F_L_areAlike (o : OM2) : Option (Int32 × OM2) := b0 (on1 (F_X5_stopped o.1 ((0 : Int32))) o) (fun r_1 o_2 => b0 (on2 (F_X5_stopped o_2.2 ((0 : Int32))) o_2) (fun r_3 o_4 => bd (fun (s_5 : Int32) => bd (fun (o_7 : OM2) (v2_6 : Int32) => bd (fun (o_9 : OM2) (v2_8 : Int32) => bd (fun (o_11 : OM2) (v2_10 : Int32) => grd (isZ v2_10) (some (v2_10, o_11))) (fun k180 => LL_areAlike_115 k180 FU o_9 v2_8 ((0 : Int32)))) (fun k113 => LL_areAlike_58 k113 FU o_7 v2_6 ((0 : Int32)))) (fun k56 => LL_areAlike_21 k56 FU o_4 s_5 ((0 : Int32)))) (fun k18 => if r_1 = r_3 then (k18 ((1 : Int32))) else (k18 ((0 : Int32))))))
abbrev rmL_areAlike : Room := { frames := 8, cells := 0, slots := 0, locals := 142 }
set_option maxHeartbeats 4000000 in
set_option maxRecDepth 100000 in
theorem lL_areAlike_115 {G : Gd} {p : Program} {l : Launch} {e : Env} {s : State} {m : MethodId} {args : Array Value} {below : List Frame} {meth : Method} {c : Code} {r : Int32} {o9 : OM2}  (C : Cx G RL cL_areAlike 4 (some .boolean) p s m args meth c) (X : X2 G s) (hl9 : l.stackTraces = false)  {k180 : OM2 → Int32 → Option (Int32 × OM2)} (j180 : ∀ (o_11 : OM2) (v2_10 : Int32) H1 L1 ls, Hp2 G o_11 s H1 L1 → lv_has ls 4 [(2, .int v2_10)] → k180 o_11 v2_10 = some (r, o9) → W p l e rmL_areAlike s m args below meth c H1 L1 0 0 (Qm2 G (some (.int r)) o9 rmL_areAlike below args s) (F0 m 180 ls [])) : ∀ (n : Nat) (o_14 : OM2) (v2_12 : Int32) (v3_13 : Int32) H1 L1 ls, Hp2 G o_14 s H1 L1 → lv_has ls 4 [(0, .ref (rA G 0 0)), (1, .ref (rA (pG G) 0 0)), (2, .int v2_12), (3, .int v3_13)] → LL_areAlike_115 k180 n o_14 v2_12 v3_13 = some (r, o9) → W p l e rmL_areAlike s m args below meth c H1 L1 0 0 (Qm2 G (some (.int r)) o9 rmL_areAlike below args s) (F0 m 115 ls []) := by
  intro n
  induction n with
  | zero =>
    intro o_14 v2_12 v3_13 H1 L1 ls P hl hf
    exact nomatch hf
  | succ n ih =>
    intro o_14 v2_12 v3_13 H1 L1 ls P hl hf
    rw [LL_areAlike_115.eq_2] at hf
    refine r_iload_n C hl 3 rfl rfl dL_areAlike_115 ?_
    refine r_bipush C (v := 40) (by decide) dL_areAlike_116 ?_
    refine r_aload_n C hl 0 rfl rfl dL_areAlike_118 ?_
    refine r_iconst C (v := 1) (by decide) dL_areAlike_119 ?_
    refine t_cV1 C X P cf_L_48 (rm := rmX5_count) rfl [.int ((1 : Int32))] [.int ((40 : Int32)), .int v3_13] hf (fun _ _ h => ctX5_count l G hl9 o_14.1 ((1 : Int32)) h) ⟨Nat.le_of_ble_eq_true rfl, Nat.le_of_ble_eq_true rfl⟩ ⟨Nat.le_of_ble_eq_true rfl, Nat.le_of_ble_eq_true rfl⟩ rfl rfl hl.1 (Nat.le_of_ble_eq_true rfl) dL_areAlike_120 (fun r_15 o_16 H1 L1 P hf => ?_)
    refine r_imul C dL_areAlike_123 ?_
    refine r_icmp_ge C dL_areAlike_124 hf (fun hf => ?_) (fun hf => ?_)
    · exact j180 o_16 v2_12 _ _ _ P (lv_sub hl [2] rfl) hf
    · refine r_iload_n C hl 2 rfl rfl dL_areAlike_127 ?_
      refine r_jn (fun k173 : OM2 → Int32 → Option (Int32 × OM2) => ∀ (o_18 : OM2) (s_17 : Int32) H1 L1 ls, Hp2 G o_18 s H1 L1 → lv_has ls 4 [(0, .ref (rA G 0 0)), (1, .ref (rA (pG G) 0 0)), (3, .int v3_13)] → k173 o_18 s_17 = some (r, o9) → W p l e rmL_areAlike s m args below meth c H1 L1 0 0 (Qm2 G (some (.int r)) o9 rmL_areAlike below args s) (F0 m 173 ls [.int s_17])) hf ?_ (fun k173 j173 hf => ?_)
      · intro o_18 s_17 H1 L1 ls  P hl hf
        refine r_istore_n C [(2, .int s_17), (0, .ref (rA G 0 0)), (1, .ref (rA (pG G) 0 0)), (3, .int v3_13)] hl (by decide) rfl rfl dL_areAlike_173 (fun ls hl => ?_)
        refine r_iinc C (fun v3_19 => [(3, .int v3_19), (2, .int s_17), (0, .ref (rA G 0 0)), (1, .ref (rA (pG G) 0 0))]) (w := 1) 3 hl rfl (by decide) (by decide) (fun _ => rfl) dL_areAlike_174 hf (fun v3_19 ls hl hf => ?_)
        refine r_goto C dL_areAlike_177 ?_
        exact ih o_18 s_17 v3_19 _ _ _ P (lv_sub hl [2, 3, 1, 0] rfl) hf
      refine r_jn (fun k172 : OM2 → Option (Int32 × OM2) => ∀ (o_20 : OM2) H1 L1 ls, Hp2 G o_20 s H1 L1 → lv_has ls 4 [(0, .ref (rA G 0 0)), (1, .ref (rA (pG G) 0 0)), (3, .int v3_13)] → k172 o_20 = some (r, o9) → W p l e rmL_areAlike s m args below meth c H1 L1 0 0 (Qm2 G (some (.int r)) o9 rmL_areAlike below args s) (F0 m 172 ls [])) hf ?_ (fun k172 j172 hf => ?_)
      · intro o_20 H1 L1 ls  P hl hf
        refine r_iconst C (v := 0) (by decide) dL_areAlike_172 ?_
        exact j173 o_20 ((0 : Int32)) _ _ _ P (lv_sub hl [0, 1, 2] rfl) hf
      refine r_if_eq C dL_areAlike_128 hf (fun hf => ?_) (fun hf => ?_)
      · exact j172 o_16 _ _ _ P (lv_sub hl [0, 1, 3] rfl) hf
      · refine r_aload_n C hl 0 rfl rfl dL_areAlike_131 ?_
        refine r_iload_n C hl 3 rfl rfl dL_areAlike_132 ?_
        refine r_bipush C (v := 40) (by decide) dL_areAlike_133 ?_
        refine r_idiv C dL_areAlike_135 hf (fun hf => ?_)
        refine r_iload_n C hl 3 rfl rfl dL_areAlike_136 ?_
        refine r_iconst C (v := 4) (by decide) dL_areAlike_137 ?_
        refine r_idiv C dL_areAlike_138 hf (fun hf => ?_)
        refine r_bipush C (v := 10) (by decide) dL_areAlike_139 ?_
        refine r_irem C dL_areAlike_141 hf (fun hf => ?_)
        refine r_iload_n C hl 3 rfl rfl dL_areAlike_142 ?_
        refine r_iconst C (v := 4) (by decide) dL_areAlike_143 ?_
        refine r_irem C dL_areAlike_144 hf (fun hf => ?_)
        refine t_cV1 C X P cf_L_64 (rm := rmX5_point) rfl [.int (v3_13 / ((40 : Int32))), .int ((v3_13 / ((4 : Int32))) - (v3_13 / ((4 : Int32))) / ((10 : Int32)) * ((10 : Int32))), .int (v3_13 - v3_13 / ((4 : Int32)) * ((4 : Int32)))] [] hf (fun _ _ h => ctX5_point l G hl9 o_16.1 (v3_13 / ((40 : Int32))) ((v3_13 / ((4 : Int32))) - (v3_13 / ((4 : Int32))) / ((10 : Int32)) * ((10 : Int32))) (v3_13 - v3_13 / ((4 : Int32)) * ((4 : Int32))) h) ⟨Nat.le_of_ble_eq_true rfl, Nat.le_of_ble_eq_true rfl⟩ ⟨Nat.le_of_ble_eq_true rfl, Nat.le_of_ble_eq_true rfl⟩ rfl rfl hl.1 (Nat.le_of_ble_eq_true rfl) dL_areAlike_145 (fun r_21 o_22 H1 L1 P hf => ?_)
        refine r_aload_n C hl 1 rfl rfl dL_areAlike_148 ?_
        refine r_iload_n C hl 3 rfl rfl dL_areAlike_149 ?_
        refine r_bipush C (v := 40) (by decide) dL_areAlike_150 ?_
        refine r_idiv C dL_areAlike_152 hf (fun hf => ?_)
        refine r_iload_n C hl 3 rfl rfl dL_areAlike_153 ?_
        refine r_iconst C (v := 4) (by decide) dL_areAlike_154 ?_
        refine r_idiv C dL_areAlike_155 hf (fun hf => ?_)
        refine r_bipush C (v := 10) (by decide) dL_areAlike_156 ?_
        refine r_irem C dL_areAlike_158 hf (fun hf => ?_)
        refine r_iload_n C hl 3 rfl rfl dL_areAlike_159 ?_
        refine r_iconst C (v := 4) (by decide) dL_areAlike_160 ?_
        refine r_irem C dL_areAlike_161 hf (fun hf => ?_)
        refine t_cV2 C X P cf_L_64 (rm := rmX5_point) rfl [.int (v3_13 / ((40 : Int32))), .int ((v3_13 / ((4 : Int32))) - (v3_13 / ((4 : Int32))) / ((10 : Int32)) * ((10 : Int32))), .int (v3_13 - v3_13 / ((4 : Int32)) * ((4 : Int32)))] [.int r_21] hf (fun _ _ h => ctX5_point l (pG G) hl9 o_22.2 (v3_13 / ((40 : Int32))) ((v3_13 / ((4 : Int32))) - (v3_13 / ((4 : Int32))) / ((10 : Int32)) * ((10 : Int32))) (v3_13 - v3_13 / ((4 : Int32)) * ((4 : Int32))) h) ⟨Nat.le_of_ble_eq_true rfl, Nat.le_of_ble_eq_true rfl⟩ ⟨Nat.le_of_ble_eq_true rfl, Nat.le_of_ble_eq_true rfl⟩ rfl rfl hl.1 (Nat.le_of_ble_eq_true rfl) dL_areAlike_162 (fun r_23 o_24 H1 L1 P hf => ?_)
        refine r_icmp_ne C dL_areAlike_165 hf (fun hf => ?_) (fun hf => ?_)
        · exact j172 o_24 _ _ _ P (lv_sub hl [0, 1, 3] rfl) hf
        · refine r_iconst C (v := 1) (by decide) dL_areAlike_168 ?_
          refine r_goto C dL_areAlike_169 ?_
          exact j173 o_24 ((1 : Int32)) _ _ _ P (lv_sub hl [0, 1, 3] rfl) hf
set_option maxHeartbeats 4000000 in
set_option maxRecDepth 100000 in
theorem lL_areAlike_58 {G : Gd} {p : Program} {l : Launch} {e : Env} {s : State} {m : MethodId} {args : Array Value} {below : List Frame} {meth : Method} {c : Code} {r : Int32} {o9 : OM2}  (C : Cx G RL cL_areAlike 4 (some .boolean) p s m args meth c) (X : X2 G s) (hl9 : l.stackTraces = false)  {k113 : OM2 → Int32 → Option (Int32 × OM2)} (j113 : ∀ (o_9 : OM2) (v2_8 : Int32) H1 L1 ls, Hp2 G o_9 s H1 L1 → lv_has ls 4 [(0, .ref (rA G 0 0)), (1, .ref (rA (pG G) 0 0)), (2, .int v2_8)] → k113 o_9 v2_8 = some (r, o9) → W p l e rmL_areAlike s m args below meth c H1 L1 0 0 (Qm2 G (some (.int r)) o9 rmL_areAlike below args s) (F0 m 113 ls [])) : ∀ (n : Nat) (o_27 : OM2) (v2_25 : Int32) (v3_26 : Int32) H1 L1 ls, Hp2 G o_27 s H1 L1 → lv_has ls 4 [(0, .ref (rA G 0 0)), (1, .ref (rA (pG G) 0 0)), (2, .int v2_25), (3, .int v3_26)] → LL_areAlike_58 k113 n o_27 v2_25 v3_26 = some (r, o9) → W p l e rmL_areAlike s m args below meth c H1 L1 0 0 (Qm2 G (some (.int r)) o9 rmL_areAlike below args s) (F0 m 58 ls []) := by
  intro n
  induction n with
  | zero =>
    intro o_27 v2_25 v3_26 H1 L1 ls P hl hf
    exact nomatch hf
  | succ n ih =>
    intro o_27 v2_25 v3_26 H1 L1 ls P hl hf
    rw [LL_areAlike_58.eq_2] at hf
    refine r_iload_n C hl 3 rfl rfl dL_areAlike_58 ?_
    refine r_bipush C (v := 9) (by decide) dL_areAlike_59 ?_
    refine r_aload_n C hl 0 rfl rfl dL_areAlike_61 ?_
    refine r_iconst C (v := 1) (by decide) dL_areAlike_62 ?_
    refine t_cV1 C X P cf_L_48 (rm := rmX5_count) rfl [.int ((1 : Int32))] [.int ((9 : Int32)), .int v3_26] hf (fun _ _ h => ctX5_count l G hl9 o_27.1 ((1 : Int32)) h) ⟨Nat.le_of_ble_eq_true rfl, Nat.le_of_ble_eq_true rfl⟩ ⟨Nat.le_of_ble_eq_true rfl, Nat.le_of_ble_eq_true rfl⟩ rfl rfl hl.1 (Nat.le_of_ble_eq_true rfl) dL_areAlike_63 (fun r_28 o_29 H1 L1 P hf => ?_)
    refine r_imul C dL_areAlike_66 ?_
    refine r_icmp_ge C dL_areAlike_67 hf (fun hf => ?_) (fun hf => ?_)
    · exact j113 o_29 v2_25 _ _ _ P (lv_sub hl [0, 1, 2] rfl) hf
    · refine r_iload_n C hl 2 rfl rfl dL_areAlike_70 ?_
      refine r_jn (fun k106 : OM2 → Int32 → Option (Int32 × OM2) => ∀ (o_31 : OM2) (s_30 : Int32) H1 L1 ls, Hp2 G o_31 s H1 L1 → lv_has ls 4 [(0, .ref (rA G 0 0)), (1, .ref (rA (pG G) 0 0)), (3, .int v3_26)] → k106 o_31 s_30 = some (r, o9) → W p l e rmL_areAlike s m args below meth c H1 L1 0 0 (Qm2 G (some (.int r)) o9 rmL_areAlike below args s) (F0 m 106 ls [.int s_30])) hf ?_ (fun k106 j106 hf => ?_)
      · intro o_31 s_30 H1 L1 ls  P hl hf
        refine r_istore_n C [(2, .int s_30), (0, .ref (rA G 0 0)), (1, .ref (rA (pG G) 0 0)), (3, .int v3_26)] hl (by decide) rfl rfl dL_areAlike_106 (fun ls hl => ?_)
        refine r_iinc C (fun v3_32 => [(3, .int v3_32), (2, .int s_30), (0, .ref (rA G 0 0)), (1, .ref (rA (pG G) 0 0))]) (w := 1) 3 hl rfl (by decide) (by decide) (fun _ => rfl) dL_areAlike_107 hf (fun v3_32 ls hl hf => ?_)
        refine r_goto C dL_areAlike_110 ?_
        exact ih o_31 s_30 v3_32 _ _ _ P (lv_sub hl [2, 3, 1, 0] rfl) hf
      refine r_jn (fun k105 : OM2 → Option (Int32 × OM2) => ∀ (o_33 : OM2) H1 L1 ls, Hp2 G o_33 s H1 L1 → lv_has ls 4 [(0, .ref (rA G 0 0)), (1, .ref (rA (pG G) 0 0)), (3, .int v3_26)] → k105 o_33 = some (r, o9) → W p l e rmL_areAlike s m args below meth c H1 L1 0 0 (Qm2 G (some (.int r)) o9 rmL_areAlike below args s) (F0 m 105 ls [])) hf ?_ (fun k105 j105 hf => ?_)
      · intro o_33 H1 L1 ls  P hl hf
        refine r_iconst C (v := 0) (by decide) dL_areAlike_105 ?_
        exact j106 o_33 ((0 : Int32)) _ _ _ P (lv_sub hl [0, 1, 2] rfl) hf
      refine r_if_eq C dL_areAlike_71 hf (fun hf => ?_) (fun hf => ?_)
      · exact j105 o_29 _ _ _ P (lv_sub hl [0, 1, 3] rfl) hf
      · refine r_aload_n C hl 0 rfl rfl dL_areAlike_74 ?_
        refine r_iload_n C hl 3 rfl rfl dL_areAlike_75 ?_
        refine r_bipush C (v := 9) (by decide) dL_areAlike_76 ?_
        refine r_idiv C dL_areAlike_78 hf (fun hf => ?_)
        refine r_iload_n C hl 3 rfl rfl dL_areAlike_79 ?_
        refine r_bipush C (v := 9) (by decide) dL_areAlike_80 ?_
        refine r_irem C dL_areAlike_82 hf (fun hf => ?_)
        refine t_cV1 C X P cf_L_61 (rm := rmX5_thermometer) rfl [.int (v3_26 / ((9 : Int32))), .int (v3_26 - v3_26 / ((9 : Int32)) * ((9 : Int32)))] [] hf (fun _ _ h => ctX5_thermometer l G hl9 o_29.1 (v3_26 / ((9 : Int32))) (v3_26 - v3_26 / ((9 : Int32)) * ((9 : Int32))) h) ⟨Nat.le_of_ble_eq_true rfl, Nat.le_of_ble_eq_true rfl⟩ ⟨Nat.le_of_ble_eq_true rfl, Nat.le_of_ble_eq_true rfl⟩ rfl rfl hl.1 (Nat.le_of_ble_eq_true rfl) dL_areAlike_83 (fun r_34 o_35 H1 L1 P hf => ?_)
        refine r_aload_n C hl 1 rfl rfl dL_areAlike_86 ?_
        refine r_iload_n C hl 3 rfl rfl dL_areAlike_87 ?_
        refine r_bipush C (v := 9) (by decide) dL_areAlike_88 ?_
        refine r_idiv C dL_areAlike_90 hf (fun hf => ?_)
        refine r_iload_n C hl 3 rfl rfl dL_areAlike_91 ?_
        refine r_bipush C (v := 9) (by decide) dL_areAlike_92 ?_
        refine r_irem C dL_areAlike_94 hf (fun hf => ?_)
        refine t_cV2 C X P cf_L_61 (rm := rmX5_thermometer) rfl [.int (v3_26 / ((9 : Int32))), .int (v3_26 - v3_26 / ((9 : Int32)) * ((9 : Int32)))] [.int r_34] hf (fun _ _ h => ctX5_thermometer l (pG G) hl9 o_35.2 (v3_26 / ((9 : Int32))) (v3_26 - v3_26 / ((9 : Int32)) * ((9 : Int32))) h) ⟨Nat.le_of_ble_eq_true rfl, Nat.le_of_ble_eq_true rfl⟩ ⟨Nat.le_of_ble_eq_true rfl, Nat.le_of_ble_eq_true rfl⟩ rfl rfl hl.1 (Nat.le_of_ble_eq_true rfl) dL_areAlike_95 (fun r_36 o_37 H1 L1 P hf => ?_)
        refine r_icmp_ne C dL_areAlike_98 hf (fun hf => ?_) (fun hf => ?_)
        · exact j105 o_37 _ _ _ P (lv_sub hl [0, 1, 3] rfl) hf
        · refine r_iconst C (v := 1) (by decide) dL_areAlike_101 ?_
          refine r_goto C dL_areAlike_102 ?_
          exact j106 o_37 ((1 : Int32)) _ _ _ P (lv_sub hl [0, 1, 3] rfl) hf
set_option maxHeartbeats 4000000 in
set_option maxRecDepth 100000 in
theorem lL_areAlike_21 {G : Gd} {p : Program} {l : Launch} {e : Env} {s : State} {m : MethodId} {args : Array Value} {below : List Frame} {meth : Method} {c : Code} {r : Int32} {o9 : OM2}  (C : Cx G RL cL_areAlike 4 (some .boolean) p s m args meth c) (X : X2 G s) (hl9 : l.stackTraces = false)  {k56 : OM2 → Int32 → Option (Int32 × OM2)} (j56 : ∀ (o_7 : OM2) (v2_6 : Int32) H1 L1 ls, Hp2 G o_7 s H1 L1 → lv_has ls 4 [(0, .ref (rA G 0 0)), (1, .ref (rA (pG G) 0 0)), (2, .int v2_6)] → k56 o_7 v2_6 = some (r, o9) → W p l e rmL_areAlike s m args below meth c H1 L1 0 0 (Qm2 G (some (.int r)) o9 rmL_areAlike below args s) (F0 m 56 ls [])) : ∀ (n : Nat) (o_40 : OM2) (v2_38 : Int32) (v3_39 : Int32) H1 L1 ls, Hp2 G o_40 s H1 L1 → lv_has ls 4 [(0, .ref (rA G 0 0)), (1, .ref (rA (pG G) 0 0)), (2, .int v2_38), (3, .int v3_39)] → LL_areAlike_21 k56 n o_40 v2_38 v3_39 = some (r, o9) → W p l e rmL_areAlike s m args below meth c H1 L1 0 0 (Qm2 G (some (.int r)) o9 rmL_areAlike below args s) (F0 m 21 ls []) := by
  intro n
  induction n with
  | zero =>
    intro o_40 v2_38 v3_39 H1 L1 ls P hl hf
    exact nomatch hf
  | succ n ih =>
    intro o_40 v2_38 v3_39 H1 L1 ls P hl hf
    rw [LL_areAlike_21.eq_2] at hf
    refine r_iload_n C hl 3 rfl rfl dL_areAlike_21 ?_
    refine r_bipush C (v := 17) (by decide) dL_areAlike_22 ?_
    refine r_icmp_ge C dL_areAlike_24 hf (fun hf => ?_) (fun hf => ?_)
    · exact j56 o_40 v2_38 _ _ _ P (lv_sub hl [0, 1, 2] rfl) hf
    · refine r_iload_n C hl 2 rfl rfl dL_areAlike_27 ?_
      refine r_jn (fun k49 : OM2 → Int32 → Option (Int32 × OM2) => ∀ (o_42 : OM2) (s_41 : Int32) H1 L1 ls, Hp2 G o_42 s H1 L1 → lv_has ls 4 [(0, .ref (rA G 0 0)), (1, .ref (rA (pG G) 0 0)), (3, .int v3_39)] → k49 o_42 s_41 = some (r, o9) → W p l e rmL_areAlike s m args below meth c H1 L1 0 0 (Qm2 G (some (.int r)) o9 rmL_areAlike below args s) (F0 m 49 ls [.int s_41])) hf ?_ (fun k49 j49 hf => ?_)
      · intro o_42 s_41 H1 L1 ls  P hl hf
        refine r_istore_n C [(2, .int s_41), (0, .ref (rA G 0 0)), (1, .ref (rA (pG G) 0 0)), (3, .int v3_39)] hl (by decide) rfl rfl dL_areAlike_49 (fun ls hl => ?_)
        refine r_iinc C (fun v3_43 => [(3, .int v3_43), (2, .int s_41), (0, .ref (rA G 0 0)), (1, .ref (rA (pG G) 0 0))]) (w := 1) 3 hl rfl (by decide) (by decide) (fun _ => rfl) dL_areAlike_50 hf (fun v3_43 ls hl hf => ?_)
        refine r_goto C dL_areAlike_53 ?_
        exact ih o_42 s_41 v3_43 _ _ _ P (lv_sub hl [2, 3, 1, 0] rfl) hf
      refine r_jn (fun k48 : OM2 → Option (Int32 × OM2) => ∀ (o_44 : OM2) H1 L1 ls, Hp2 G o_44 s H1 L1 → lv_has ls 4 [(0, .ref (rA G 0 0)), (1, .ref (rA (pG G) 0 0)), (3, .int v3_39)] → k48 o_44 = some (r, o9) → W p l e rmL_areAlike s m args below meth c H1 L1 0 0 (Qm2 G (some (.int r)) o9 rmL_areAlike below args s) (F0 m 48 ls [])) hf ?_ (fun k48 j48 hf => ?_)
      · intro o_44 H1 L1 ls  P hl hf
        refine r_iconst C (v := 0) (by decide) dL_areAlike_48 ?_
        exact j49 o_44 ((0 : Int32)) _ _ _ P (lv_sub hl [0, 1, 2] rfl) hf
      refine r_if_eq C dL_areAlike_28 hf (fun hf => ?_) (fun hf => ?_)
      · exact j48 o_40 _ _ _ P (lv_sub hl [0, 1, 3] rfl) hf
      · refine r_aload_n C hl 0 rfl rfl dL_areAlike_31 ?_
        refine r_iload_n C hl 3 rfl rfl dL_areAlike_32 ?_
        refine t_cV1 C X P cf_L_48 (rm := rmX5_count) rfl [.int v3_39] [] hf (fun _ _ h => ctX5_count l G hl9 o_40.1 v3_39 h) ⟨Nat.le_of_ble_eq_true rfl, Nat.le_of_ble_eq_true rfl⟩ ⟨Nat.le_of_ble_eq_true rfl, Nat.le_of_ble_eq_true rfl⟩ rfl rfl hl.1 (Nat.le_of_ble_eq_true rfl) dL_areAlike_33 (fun r_45 o_46 H1 L1 P hf => ?_)
        refine r_aload_n C hl 1 rfl rfl dL_areAlike_36 ?_
        refine r_iload_n C hl 3 rfl rfl dL_areAlike_37 ?_
        refine t_cV2 C X P cf_L_48 (rm := rmX5_count) rfl [.int v3_39] [.int r_45] hf (fun _ _ h => ctX5_count l (pG G) hl9 o_46.2 v3_39 h) ⟨Nat.le_of_ble_eq_true rfl, Nat.le_of_ble_eq_true rfl⟩ ⟨Nat.le_of_ble_eq_true rfl, Nat.le_of_ble_eq_true rfl⟩ rfl rfl hl.1 (Nat.le_of_ble_eq_true rfl) dL_areAlike_38 (fun r_47 o_48 H1 L1 P hf => ?_)
        refine r_icmp_ne C dL_areAlike_41 hf (fun hf => ?_) (fun hf => ?_)
        · exact j48 o_48 _ _ _ P (lv_sub hl [0, 1, 3] rfl) hf
        · refine r_iconst C (v := 1) (by decide) dL_areAlike_44 ?_
          refine r_goto C dL_areAlike_45 ?_
          exact j49 o_48 ((1 : Int32)) _ _ _ P (lv_sub hl [0, 1, 3] rfl) hf
set_option maxHeartbeats 4000000 in
set_option maxRecDepth 100000 in
theorem wL_areAlike {G : Gd} {p : Program} {l : Launch} {e : Env} {s : State} {m : MethodId} {args : Array Value} {below : List Frame} {meth : Method} {c : Code} {o : OM2} {H : Heap} {L0 : List Loc} {ls : Array Slot} {r : Int32} {o9 : OM2}  (C : Cx G RL cL_areAlike 4 (some .boolean) p s m args meth c) (X : X2 G s) (hl9 : l.stackTraces = false)  (P : Hp2 G o s H L0) (hl : lv_has ls 4 [(0, .ref (rA G 0 0)), (1, .ref (rA (pG G) 0 0))]) (hf : F_L_areAlike o  = some (r, o9)) : W p l e rmL_areAlike s m args below meth c H L0 0 0 (Qm2 G (some (.int r)) o9 rmL_areAlike below args s) (F0 m 0 ls []) := by
  unfold F_L_areAlike at hf
  refine r_aload_n C hl 0 rfl rfl dL_areAlike_0 ?_
  refine r_iconst C (v := 0) (by decide) dL_areAlike_1 ?_
  refine t_cV1 C X P cf_L_58 (rm := rmX5_stopped) rfl [.int ((0 : Int32))] [] hf (fun _ _ h => ctX5_stopped l G hl9 o.1 ((0 : Int32)) h) ⟨Nat.le_of_ble_eq_true rfl, Nat.le_of_ble_eq_true rfl⟩ ⟨Nat.le_of_ble_eq_true rfl, Nat.le_of_ble_eq_true rfl⟩ rfl rfl hl.1 (Nat.le_of_ble_eq_true rfl) dL_areAlike_2 (fun r_1 o_2 H1 L1 P hf => ?_)
  refine r_aload_n C hl 1 rfl rfl dL_areAlike_5 ?_
  refine r_iconst C (v := 0) (by decide) dL_areAlike_6 ?_
  refine t_cV2 C X P cf_L_58 (rm := rmX5_stopped) rfl [.int ((0 : Int32))] [.int r_1] hf (fun _ _ h => ctX5_stopped l (pG G) hl9 o_2.2 ((0 : Int32)) h) ⟨Nat.le_of_ble_eq_true rfl, Nat.le_of_ble_eq_true rfl⟩ ⟨Nat.le_of_ble_eq_true rfl, Nat.le_of_ble_eq_true rfl⟩ rfl rfl hl.1 (Nat.le_of_ble_eq_true rfl) dL_areAlike_7 (fun r_3 o_4 H1 L1 P hf => ?_)
  refine r_jn (fun k18 : Int32 → Option (Int32 × OM2) => ∀ (s_5 : Int32) H1 L1 ls, Hp2 G o_4 s H1 L1 → lv_has ls 4 [(0, .ref (rA G 0 0)), (1, .ref (rA (pG G) 0 0))] → k18 s_5 = some (r, o9) → W p l e rmL_areAlike s m args below meth c H1 L1 0 0 (Qm2 G (some (.int r)) o9 rmL_areAlike below args s) (F0 m 18 ls [.int s_5])) hf ?_ (fun k18 j18 hf => ?_)
  · intro s_5 H1 L1 ls  P hl hf
    refine r_istore_n C [(2, .int s_5), (0, .ref (rA G 0 0)), (1, .ref (rA (pG G) 0 0))] hl (by decide) rfl rfl dL_areAlike_18 (fun ls hl => ?_)
    refine r_iconst C (v := 0) (by decide) dL_areAlike_19 ?_
    refine r_istore_n C [(3, .int ((0 : Int32))), (2, .int s_5), (0, .ref (rA G 0 0)), (1, .ref (rA (pG G) 0 0))] hl (by decide) rfl rfl dL_areAlike_20 (fun ls hl => ?_)
    refine r_jn (fun k56 : OM2 → Int32 → Option (Int32 × OM2) => ∀ (o_7 : OM2) (v2_6 : Int32) H1 L1 ls, Hp2 G o_7 s H1 L1 → lv_has ls 4 [(0, .ref (rA G 0 0)), (1, .ref (rA (pG G) 0 0)), (2, .int v2_6)] → k56 o_7 v2_6 = some (r, o9) → W p l e rmL_areAlike s m args below meth c H1 L1 0 0 (Qm2 G (some (.int r)) o9 rmL_areAlike below args s) (F0 m 56 ls [])) hf ?_ (fun k56 j56 hf => ?_)
    · intro o_7 v2_6 H1 L1 ls  P hl hf
      refine r_iconst C (v := 0) (by decide) dL_areAlike_56 ?_
      refine r_istore_n C [(3, .int ((0 : Int32))), (0, .ref (rA G 0 0)), (1, .ref (rA (pG G) 0 0)), (2, .int v2_6)] hl (by decide) rfl rfl dL_areAlike_57 (fun ls hl => ?_)
      refine r_jn (fun k113 : OM2 → Int32 → Option (Int32 × OM2) => ∀ (o_9 : OM2) (v2_8 : Int32) H1 L1 ls, Hp2 G o_9 s H1 L1 → lv_has ls 4 [(0, .ref (rA G 0 0)), (1, .ref (rA (pG G) 0 0)), (2, .int v2_8)] → k113 o_9 v2_8 = some (r, o9) → W p l e rmL_areAlike s m args below meth c H1 L1 0 0 (Qm2 G (some (.int r)) o9 rmL_areAlike below args s) (F0 m 113 ls [])) hf ?_ (fun k113 j113 hf => ?_)
      · intro o_9 v2_8 H1 L1 ls  P hl hf
        refine r_iconst C (v := 0) (by decide) dL_areAlike_113 ?_
        refine r_istore_n C [(3, .int ((0 : Int32))), (0, .ref (rA G 0 0)), (1, .ref (rA (pG G) 0 0)), (2, .int v2_8)] hl (by decide) rfl rfl dL_areAlike_114 (fun ls hl => ?_)
        refine r_jn (fun k180 : OM2 → Int32 → Option (Int32 × OM2) => ∀ (o_11 : OM2) (v2_10 : Int32) H1 L1 ls, Hp2 G o_11 s H1 L1 → lv_has ls 4 [(2, .int v2_10)] → k180 o_11 v2_10 = some (r, o9) → W p l e rmL_areAlike s m args below meth c H1 L1 0 0 (Qm2 G (some (.int r)) o9 rmL_areAlike below args s) (F0 m 180 ls [])) hf ?_ (fun k180 j180 hf => ?_)
        · intro o_11 v2_10 H1 L1 ls  P hl hf
          refine r_iload_n C hl 0 rfl rfl dL_areAlike_180 ?_
          exact t_zret C P (rm := rmL_areAlike) ⟨rfl, rfl⟩ dL_areAlike_181 hf
        exact lL_areAlike_115 C X hl9  j180 FU o_9 v2_8 ((0 : Int32)) _ _ _ P (lv_sub hl [1, 2, 3, 0] rfl) hf
      exact lL_areAlike_58 C X hl9  j113 FU o_7 v2_6 ((0 : Int32)) _ _ _ P (lv_sub hl [1, 2, 3, 0] rfl) hf
    exact lL_areAlike_21 C X hl9  j56 FU o_4 s_5 ((0 : Int32)) _ _ _ P (lv_sub hl [2, 3, 1, 0] rfl) hf
  refine r_icmp_ne C dL_areAlike_10 hf (fun hf => ?_) (fun hf => ?_)
  · refine r_iconst C (v := 0) (by decide) dL_areAlike_17 ?_
    exact j18 ((0 : Int32)) _ _ _ P (lv_sub hl [0, 1] rfl) hf
  · refine r_iconst C (v := 1) (by decide) dL_areAlike_13 ?_
    refine r_goto C dL_areAlike_14 ?_
    exact j18 ((1 : Int32)) _ _ _ P (lv_sub hl [0, 1] rfl) hf
theorem ctL_areAlike (l : Launch) (G : Gd) (hl9 : l.stackTraces = false) (o : OM2)   {r : Int32} {o9 : OM2} (hf : F_L_areAlike o  = some (r, o9)) : Ct2 l yL_areAlike cL_areAlike 4 (some .boolean) rmL_areAlike G [.ref (rA G 0 0), .ref (rA (pG G) 0 0)] o (some (.int r)) o9 := ct2_of (by decide +kernel) (Nat.le_of_ble_eq_true rfl) (fun p e s m below meth c ls C X P hl => wL_areAlike C X hl9  P hl hf)
