theorem cf_L_87 : CallF false RL 87 yX5_validShare cX5_validShare 1 (some .double) 0 := ⟨wd_641, (by rw [if_neg (by decide)]; exact ⟨wd_642, wd_643⟩), wd_10, wd_644, by decide, by decide +kernel⟩
theorem dL_areSums_0 : Dc cL_areSums 0 (.iconst 0) 1 1 := ⟨by decide +kernel, rfl⟩
theorem dL_areSums_1 : Dc cL_areSums 1 (.istore_n 1) 1 2 := ⟨by decide +kernel, rfl⟩
theorem dL_areSums_2 : Dc cL_areSums 2 (.iconst 0) 1 3 := ⟨by decide +kernel, rfl⟩
theorem dL_areSums_3 : Dc cL_areSums 3 (.istore_n 2) 1 4 := ⟨by decide +kernel, rfl⟩
theorem dL_areSums_4 : Dc cL_areSums 4 (.iconst 0) 1 5 := ⟨by decide +kernel, rfl⟩
theorem dL_areSums_5 : Dc cL_areSums 5 (.istore_n 3) 1 6 := ⟨by decide +kernel, rfl⟩
theorem dL_areSums_6 : Dc cL_areSums 6 (.iconst 1) 1 7 := ⟨by decide +kernel, rfl⟩
theorem dL_areSums_7 : Dc cL_areSums 7 (.istore 4) 2 9 := ⟨by decide +kernel, rfl⟩
theorem dL_areSums_9 : Dc cL_areSums 9 (.iconst 0) 1 10 := ⟨by decide +kernel, rfl⟩
theorem dL_areSums_10 : Dc cL_areSums 10 (.istore 5) 2 12 := ⟨by decide +kernel, rfl⟩
theorem dL_areSums_12 : Dc cL_areSums 12 (.iload 5) 2 14 := ⟨by decide +kernel, rfl⟩
theorem dL_areSums_14 : Dc cL_areSums 14 (.aload_n 0) 1 15 := ⟨by decide +kernel, rfl⟩
theorem dL_areSums_15 : Dc cL_areSums 15 (.iconst 1) 1 16 := ⟨by decide +kernel, rfl⟩
theorem dL_areSums_16 : Dc cL_areSums 16 (.invokevirtual 48) 3 19 := ⟨by decide +kernel, rfl⟩
theorem dL_areSums_19 : Dj cL_areSums 19 (.if_icmp .ge 164) 3 22 (164) 183 := ⟨by decide +kernel, rfl, by decide⟩
theorem dL_areSums_22 : Dc cL_areSums 22 (.iload_n 1) 1 23 := ⟨by decide +kernel, rfl⟩
theorem dL_areSums_23 : Dc cL_areSums 23 (.aload_n 0) 1 24 := ⟨by decide +kernel, rfl⟩
theorem dL_areSums_24 : Dc cL_areSums 24 (.iload 5) 2 26 := ⟨by decide +kernel, rfl⟩
theorem dL_areSums_26 : Dc cL_areSums 26 (.iconst 3) 1 27 := ⟨by decide +kernel, rfl⟩
theorem dL_areSums_27 : Dc cL_areSums 27 (.invokevirtual 61) 3 30 := ⟨by decide +kernel, rfl⟩
theorem dL_areSums_30 : Dc cL_areSums 30 (.iadd) 1 31 := ⟨by decide +kernel, rfl⟩
theorem dL_areSums_31 : Dc cL_areSums 31 (.istore_n 1) 1 32 := ⟨by decide +kernel, rfl⟩
theorem dL_areSums_32 : Dc cL_areSums 32 (.iload_n 2) 1 33 := ⟨by decide +kernel, rfl⟩
theorem dL_areSums_33 : Dc cL_areSums 33 (.aload_n 0) 1 34 := ⟨by decide +kernel, rfl⟩
theorem dL_areSums_34 : Dc cL_areSums 34 (.iload 5) 2 36 := ⟨by decide +kernel, rfl⟩
theorem dL_areSums_36 : Dc cL_areSums 36 (.bipush 6) 2 38 := ⟨by decide +kernel, rfl⟩
theorem dL_areSums_38 : Dc cL_areSums 38 (.invokevirtual 61) 3 41 := ⟨by decide +kernel, rfl⟩
theorem dL_areSums_41 : Dc cL_areSums 41 (.iadd) 1 42 := ⟨by decide +kernel, rfl⟩
theorem dL_areSums_42 : Dc cL_areSums 42 (.istore_n 2) 1 43 := ⟨by decide +kernel, rfl⟩
theorem dL_areSums_43 : Dc cL_areSums 43 (.iload_n 3) 1 44 := ⟨by decide +kernel, rfl⟩
theorem dL_areSums_44 : Dc cL_areSums 44 (.aload_n 0) 1 45 := ⟨by decide +kernel, rfl⟩
theorem dL_areSums_45 : Dc cL_areSums 45 (.iload 5) 2 47 := ⟨by decide +kernel, rfl⟩
theorem dL_areSums_47 : Dc cL_areSums 47 (.iconst 2) 1 48 := ⟨by decide +kernel, rfl⟩
theorem dL_areSums_48 : Dc cL_areSums 48 (.invokevirtual 61) 3 51 := ⟨by decide +kernel, rfl⟩
theorem dL_areSums_51 : Dc cL_areSums 51 (.iadd) 1 52 := ⟨by decide +kernel, rfl⟩
theorem dL_areSums_52 : Dc cL_areSums 52 (.istore_n 3) 1 53 := ⟨by decide +kernel, rfl⟩
theorem dL_areSums_53 : Dc cL_areSums 53 (.iload 4) 2 55 := ⟨by decide +kernel, rfl⟩
theorem dL_areSums_55 : Dj cL_areSums 55 (.ifCond .eq 63) 3 58 (63) 118 := ⟨by decide +kernel, rfl, by decide⟩
theorem dL_areSums_58 : Dc cL_areSums 58 (.aload_n 0) 1 59 := ⟨by decide +kernel, rfl⟩
theorem dL_areSums_59 : Dc cL_areSums 59 (.iload 5) 2 61 := ⟨by decide +kernel, rfl⟩
theorem dL_areSums_61 : Dc cL_areSums 61 (.iconst 1) 1 62 := ⟨by decide +kernel, rfl⟩
theorem dL_areSums_62 : Dc cL_areSums 62 (.invokevirtual 61) 3 65 := ⟨by decide +kernel, rfl⟩
theorem dL_areSums_65 : Dj cL_areSums 65 (.ifCond .lt 53) 3 68 (53) 118 := ⟨by decide +kernel, rfl, by decide⟩
theorem dL_areSums_68 : Dc cL_areSums 68 (.aload_n 0) 1 69 := ⟨by decide +kernel, rfl⟩
theorem dL_areSums_69 : Dc cL_areSums 69 (.iload 5) 2 71 := ⟨by decide +kernel, rfl⟩
theorem dL_areSums_71 : Dc cL_areSums 71 (.iconst 1) 1 72 := ⟨by decide +kernel, rfl⟩
theorem dL_areSums_72 : Dc cL_areSums 72 (.invokevirtual 61) 3 75 := ⟨by decide +kernel, rfl⟩
theorem dL_areSums_75 : Dc cL_areSums 75 (.aload_n 0) 1 76 := ⟨by decide +kernel, rfl⟩
theorem dL_areSums_76 : Dc cL_areSums 76 (.iconst 0) 1 77 := ⟨by decide +kernel, rfl⟩
theorem dL_areSums_77 : Dc cL_areSums 77 (.invokevirtual 48) 3 80 := ⟨by decide +kernel, rfl⟩
theorem dL_areSums_80 : Dj cL_areSums 80 (.if_icmp .gt 38) 3 83 (38) 118 := ⟨by decide +kernel, rfl, by decide⟩
theorem dL_areSums_83 : Dc cL_areSums 83 (.aload_n 0) 1 84 := ⟨by decide +kernel, rfl⟩
theorem dL_areSums_84 : Dc cL_areSums 84 (.iload 5) 2 86 := ⟨by decide +kernel, rfl⟩
theorem dL_areSums_86 : Dc cL_areSums 86 (.iconst 2) 1 87 := ⟨by decide +kernel, rfl⟩
theorem dL_areSums_87 : Dc cL_areSums 87 (.invokevirtual 61) 3 90 := ⟨by decide +kernel, rfl⟩
theorem dL_areSums_90 : Dj cL_areSums 90 (.ifCond .lt 28) 3 93 (28) 118 := ⟨by decide +kernel, rfl, by decide⟩
theorem dL_areSums_93 : Dc cL_areSums 93 (.aload_n 0) 1 94 := ⟨by decide +kernel, rfl⟩
theorem dL_areSums_94 : Dc cL_areSums 94 (.iload 5) 2 96 := ⟨by decide +kernel, rfl⟩
theorem dL_areSums_96 : Dc cL_areSums 96 (.iconst 0) 1 97 := ⟨by decide +kernel, rfl⟩
theorem dL_areSums_97 : Dc cL_areSums 97 (.invokevirtual 61) 3 100 := ⟨by decide +kernel, rfl⟩
theorem dL_areSums_100 : Dj cL_areSums 100 (.ifCond .lt 18) 3 103 (18) 118 := ⟨by decide +kernel, rfl, by decide⟩
theorem dL_areSums_103 : Dc cL_areSums 103 (.aload_n 0) 1 104 := ⟨by decide +kernel, rfl⟩
theorem dL_areSums_104 : Dc cL_areSums 104 (.iload 5) 2 106 := ⟨by decide +kernel, rfl⟩
theorem dL_areSums_106 : Dc cL_areSums 106 (.iconst 0) 1 107 := ⟨by decide +kernel, rfl⟩
theorem dL_areSums_107 : Dc cL_areSums 107 (.invokevirtual 61) 3 110 := ⟨by decide +kernel, rfl⟩
theorem dL_areSums_110 : Dc cL_areSums 110 (.iconst 4) 1 111 := ⟨by decide +kernel, rfl⟩
theorem dL_areSums_111 : Dj cL_areSums 111 (.if_icmp .ge 7) 3 114 (7) 118 := ⟨by decide +kernel, rfl, by decide⟩
theorem dL_areSums_114 : Dc cL_areSums 114 (.iconst 1) 1 115 := ⟨by decide +kernel, rfl⟩
theorem dL_areSums_115 : Dj cL_areSums 115 (.goto 4) 3 118 (4) 119 := ⟨by decide +kernel, rfl, by decide⟩
theorem dL_areSums_118 : Dc cL_areSums 118 (.iconst 0) 1 119 := ⟨by decide +kernel, rfl⟩
theorem dL_areSums_119 : Dc cL_areSums 119 (.istore 4) 2 121 := ⟨by decide +kernel, rfl⟩
theorem dL_areSums_121 : Dc cL_areSums 121 (.iconst 0) 1 122 := ⟨by decide +kernel, rfl⟩
theorem dL_areSums_122 : Dc cL_areSums 122 (.istore 6) 2 124 := ⟨by decide +kernel, rfl⟩
theorem dL_areSums_124 : Dc cL_areSums 124 (.iload 6) 2 126 := ⟨by decide +kernel, rfl⟩
theorem dL_areSums_126 : Dc cL_areSums 126 (.iload 5) 2 128 := ⟨by decide +kernel, rfl⟩
theorem dL_areSums_128 : Dj cL_areSums 128 (.if_icmp .ge 49) 3 131 (49) 177 := ⟨by decide +kernel, rfl, by decide⟩
theorem dL_areSums_131 : Dc cL_areSums 131 (.iload 4) 2 133 := ⟨by decide +kernel, rfl⟩
theorem dL_areSums_133 : Dj cL_areSums 133 (.ifCond .eq 35) 3 136 (35) 168 := ⟨by decide +kernel, rfl, by decide⟩
theorem dL_areSums_136 : Dc cL_areSums 136 (.aload_n 0) 1 137 := ⟨by decide +kernel, rfl⟩
theorem dL_areSums_137 : Dc cL_areSums 137 (.iload 6) 2 139 := ⟨by decide +kernel, rfl⟩
theorem dL_areSums_139 : Dc cL_areSums 139 (.iconst 5) 1 140 := ⟨by decide +kernel, rfl⟩
theorem dL_areSums_140 : Dc cL_areSums 140 (.invokevirtual 61) 3 143 := ⟨by decide +kernel, rfl⟩
theorem dL_areSums_143 : Dc cL_areSums 143 (.iconst (-1)) 1 144 := ⟨by decide +kernel, rfl⟩
theorem dL_areSums_144 : Dj cL_areSums 144 (.if_icmp .eq 20) 3 147 (20) 164 := ⟨by decide +kernel, rfl, by decide⟩
theorem dL_areSums_147 : Dc cL_areSums 147 (.aload_n 0) 1 148 := ⟨by decide +kernel, rfl⟩
theorem dL_areSums_148 : Dc cL_areSums 148 (.iload 6) 2 150 := ⟨by decide +kernel, rfl⟩
theorem dL_areSums_150 : Dc cL_areSums 150 (.iconst 5) 1 151 := ⟨by decide +kernel, rfl⟩
theorem dL_areSums_151 : Dc cL_areSums 151 (.invokevirtual 61) 3 154 := ⟨by decide +kernel, rfl⟩
theorem dL_areSums_154 : Dc cL_areSums 154 (.aload_n 0) 1 155 := ⟨by decide +kernel, rfl⟩
theorem dL_areSums_155 : Dc cL_areSums 155 (.iload 5) 2 157 := ⟨by decide +kernel, rfl⟩
theorem dL_areSums_157 : Dc cL_areSums 157 (.iconst 5) 1 158 := ⟨by decide +kernel, rfl⟩
theorem dL_areSums_158 : Dc cL_areSums 158 (.invokevirtual 61) 3 161 := ⟨by decide +kernel, rfl⟩
theorem dL_areSums_161 : Dj cL_areSums 161 (.if_icmp .eq 7) 3 164 (7) 168 := ⟨by decide +kernel, rfl, by decide⟩
theorem dL_areSums_164 : Dc cL_areSums 164 (.iconst 1) 1 165 := ⟨by decide +kernel, rfl⟩
theorem dL_areSums_165 : Dj cL_areSums 165 (.goto 4) 3 168 (4) 169 := ⟨by decide +kernel, rfl, by decide⟩
theorem dL_areSums_168 : Dc cL_areSums 168 (.iconst 0) 1 169 := ⟨by decide +kernel, rfl⟩
theorem dL_areSums_169 : Dc cL_areSums 169 (.istore 4) 2 171 := ⟨by decide +kernel, rfl⟩
theorem dL_areSums_171 : Dc cL_areSums 171 (.iinc 6 1) 3 174 := ⟨by decide +kernel, rfl⟩
theorem dL_areSums_174 : Dj cL_areSums 174 (.goto (-50)) 3 177 (-50) 124 := ⟨by decide +kernel, rfl, by decide⟩
theorem dL_areSums_177 : Dc cL_areSums 177 (.iinc 5 1) 3 180 := ⟨by decide +kernel, rfl⟩
theorem dL_areSums_180 : Dj cL_areSums 180 (.goto (-168)) 3 183 (-168) 12 := ⟨by decide +kernel, rfl, by decide⟩
theorem dL_areSums_183 : Dc cL_areSums 183 (.aload_n 0) 1 184 := ⟨by decide +kernel, rfl⟩
theorem dL_areSums_184 : Dc cL_areSums 184 (.iconst 1) 1 185 := ⟨by decide +kernel, rfl⟩
theorem dL_areSums_185 : Dc cL_areSums 185 (.invokevirtual 48) 3 188 := ⟨by decide +kernel, rfl⟩
theorem dL_areSums_188 : Dj cL_areSums 188 (.ifCond .ne 7) 3 191 (7) 195 := ⟨by decide +kernel, rfl, by decide⟩
theorem dL_areSums_191 : Dc cL_areSums 191 (.dconst 1) 1 192 := ⟨by decide +kernel, rfl⟩
theorem dL_areSums_192 : Dj cL_areSums 192 (.goto 14) 3 195 (14) 206 := ⟨by decide +kernel, rfl, by decide⟩
theorem dL_areSums_195 : Dc cL_areSums 195 (.iload_n 2) 1 196 := ⟨by decide +kernel, rfl⟩
theorem dL_areSums_196 : Dc cL_areSums 196 (.i2d) 1 197 := ⟨by decide +kernel, rfl⟩
theorem dL_areSums_197 : Dc cL_areSums 197 (.dconst 1) 1 198 := ⟨by decide +kernel, rfl⟩
theorem dL_areSums_198 : Dc cL_areSums 198 (.dmul) 1 199 := ⟨by decide +kernel, rfl⟩
theorem dL_areSums_199 : Dc cL_areSums 199 (.aload_n 0) 1 200 := ⟨by decide +kernel, rfl⟩
theorem dL_areSums_200 : Dc cL_areSums 200 (.iconst 1) 1 201 := ⟨by decide +kernel, rfl⟩
theorem dL_areSums_201 : Dc cL_areSums 201 (.invokevirtual 48) 3 204 := ⟨by decide +kernel, rfl⟩
theorem dL_areSums_204 : Dc cL_areSums 204 (.i2d) 1 205 := ⟨by decide +kernel, rfl⟩
theorem dL_areSums_205 : Dc cL_areSums 205 (.ddiv) 1 206 := ⟨by decide +kernel, rfl⟩
theorem dL_areSums_206 : Dc cL_areSums 206 (.dstore 5) 2 208 := ⟨by decide +kernel, rfl⟩
theorem dL_areSums_208 : Dc cL_areSums 208 (.iload 4) 2 210 := ⟨by decide +kernel, rfl⟩
theorem dL_areSums_210 : Dj cL_areSums 210 (.ifCond .eq 44) 3 213 (44) 254 := ⟨by decide +kernel, rfl, by decide⟩
theorem dL_areSums_213 : Dc cL_areSums 213 (.iload_n 1) 1 214 := ⟨by decide +kernel, rfl⟩
theorem dL_areSums_214 : Dc cL_areSums 214 (.aload_n 0) 1 215 := ⟨by decide +kernel, rfl⟩
theorem dL_areSums_215 : Dc cL_areSums 215 (.iconst 2) 1 216 := ⟨by decide +kernel, rfl⟩
theorem dL_areSums_216 : Dc cL_areSums 216 (.invokevirtual 48) 3 219 := ⟨by decide +kernel, rfl⟩
theorem dL_areSums_219 : Dj cL_areSums 219 (.if_icmp .ne 35) 3 222 (35) 254 := ⟨by decide +kernel, rfl, by decide⟩
theorem dL_areSums_222 : Dc cL_areSums 222 (.iload_n 2) 1 223 := ⟨by decide +kernel, rfl⟩
theorem dL_areSums_223 : Dc cL_areSums 223 (.aload_n 0) 1 224 := ⟨by decide +kernel, rfl⟩
theorem dL_areSums_224 : Dc cL_areSums 224 (.iconst 3) 1 225 := ⟨by decide +kernel, rfl⟩
theorem dL_areSums_225 : Dc cL_areSums 225 (.invokevirtual 48) 3 228 := ⟨by decide +kernel, rfl⟩
theorem dL_areSums_228 : Dj cL_areSums 228 (.if_icmp .ne 26) 3 231 (26) 254 := ⟨by decide +kernel, rfl, by decide⟩
theorem dL_areSums_231 : Dc cL_areSums 231 (.iload_n 3) 1 232 := ⟨by decide +kernel, rfl⟩
theorem dL_areSums_232 : Dc cL_areSums 232 (.aload_n 0) 1 233 := ⟨by decide +kernel, rfl⟩
theorem dL_areSums_233 : Dc cL_areSums 233 (.iconst 5) 1 234 := ⟨by decide +kernel, rfl⟩
theorem dL_areSums_234 : Dc cL_areSums 234 (.invokevirtual 48) 3 237 := ⟨by decide +kernel, rfl⟩
theorem dL_areSums_237 : Dj cL_areSums 237 (.if_icmp .ne 17) 3 240 (17) 254 := ⟨by decide +kernel, rfl, by decide⟩
theorem dL_areSums_240 : Dc cL_areSums 240 (.aload_n 0) 1 241 := ⟨by decide +kernel, rfl⟩
theorem dL_areSums_241 : Dc cL_areSums 241 (.invokevirtual 87) 3 244 := ⟨by decide +kernel, rfl⟩
theorem dL_areSums_244 : Dc cL_areSums 244 (.dload 5) 2 246 := ⟨by decide +kernel, rfl⟩
theorem dL_areSums_246 : Dc cL_areSums 246 (.dcmp .l) 1 247 := ⟨by decide +kernel, rfl⟩
theorem dL_areSums_247 : Dj cL_areSums 247 (.ifCond .ne 7) 3 250 (7) 254 := ⟨by decide +kernel, rfl, by decide⟩
theorem dL_areSums_250 : Dc cL_areSums 250 (.iconst 1) 1 251 := ⟨by decide +kernel, rfl⟩
theorem dL_areSums_251 : Dj cL_areSums 251 (.goto 4) 3 254 (4) 255 := ⟨by decide +kernel, rfl, by decide⟩
theorem dL_areSums_254 : Dc cL_areSums 254 (.iconst 0) 1 255 := ⟨by decide +kernel, rfl⟩
theorem dL_areSums_255 : Dc cL_areSums 255 (.ireturn) 1 256 := ⟨by decide +kernel, rfl⟩
def LL_areSums_124 (k177 : OM → Int32 → Option (Int32 × OM)) (v5_28 : Int32) : Nat → OM → Int32 → Int32 → Option (Int32 × OM)
  | 0 => fun _ _ _ => none
  | n + 1 => fun o_48 v4_46 v6_47 => if v5_28 ≤ v6_47 then (k177 o_48 v4_46) else (bd (fun (o_50 : OM) (s_49 : Int32) => bd (v6_47 + (1 : Int32)) (fun v6_51 : Int32 => (LL_areSums_124 k177 v5_28 n) o_50 s_49 v6_51)) (fun k169 => bd (fun (o_52 : OM) => k169 o_52 ((0 : Int32))) (fun k168 => if v4_46 = 0 then (k168 o_48) else (b0 (F_X5_thermometer o_48 v6_47 ((5 : Int32))) (fun r_53 o_54 => bd (fun (o_55 : OM) => k169 o_55 ((1 : Int32))) (fun k164 => if r_53 = ((-1 : Int32)) then (k164 o_54) else (b0 (F_X5_thermometer o_54 v6_47 ((5 : Int32))) (fun r_56 o_57 => b0 (F_X5_thermometer o_57 v5_28 ((5 : Int32))) (fun r_58 o_59 => if r_56 = r_58 then (k168 o_59) else (k164 o_59))))))))))
def LL_areSums_12 (k183 : OM → Int32 → Int32 → Int32 → Int32 → Option (Int32 × OM)) : Nat → OM → Int32 → Int32 → Int32 → Int32 → Int32 → Option (Int32 × OM)
  | 0 => fun _ _ _ _ _ _ => none
  | n + 1 => fun o_29 v1_24 v2_25 v3_26 v4_27 v5_28 => b0 (F_X5_count o_29 ((1 : Int32))) (fun r_30 o_31 => if r_30 ≤ v5_28 then (k183 o_31 v1_24 v2_25 v3_26 v4_27) else (b0 (F_X5_thermometer o_31 v5_28 ((3 : Int32))) (fun r_32 o_33 => bd (v1_24 + r_32) (fun v1_34 : Int32 => b0 (F_X5_thermometer o_33 v5_28 ((6 : Int32))) (fun r_35 o_36 => bd (v2_25 + r_35) (fun v2_37 : Int32 => b0 (F_X5_thermometer o_36 v5_28 ((2 : Int32))) (fun r_38 o_39 => bd (v3_26 + r_38) (fun v3_40 : Int32 => bd (fun (o_42 : OM) (s_41 : Int32) => bd (fun (o_44 : OM) (v4_43 : Int32) => bd (v5_28 + (1 : Int32)) (fun v5_45 : Int32 => (LL_areSums_12 k183 n) o_44 v1_34 v2_37 v3_40 v4_43 v5_45)) (fun k177 => LL_areSums_124 k177 v5_28 FU o_42 s_41 ((0 : Int32)))) (fun k119 => bd (fun (o_60 : OM) => k119 o_60 ((0 : Int32))) (fun k118 => if v4_27 = 0 then (k118 o_39) else (b0 (F_X5_thermometer o_39 v5_28 ((1 : Int32))) (fun r_61 o_62 => if r_61 < 0 then (k118 o_62) else (b0 (F_X5_thermometer o_62 v5_28 ((1 : Int32))) (fun r_63 o_64 => b0 (F_X5_count o_64 ((0 : Int32))) (fun r_65 o_66 => if r_65 < r_63 then (k118 o_66) else (b0 (F_X5_thermometer o_66 v5_28 ((2 : Int32))) (fun r_67 o_68 => if r_67 < 0 then (k118 o_68) else (b0 (F_X5_thermometer o_68 v5_28 ((0 : Int32))) (fun r_69 o_70 => if r_69 < 0 then (k118 o_70) else (b0 (F_X5_thermometer o_70 v5_28 ((0 : Int32))) (fun r_71 o_72 => if ((4 : Int32)) ≤ r_71 then (k118 o_72) else (k119 o_72 ((1 : Int32))))))))))))))))))))))))
def F_L_areSums (o : OM) : Option (Int32 × OM) := bd (fun (o_5 : OM) (v1_1 : Int32) (v2_2 : Int32) (v3_3 : Int32) (v4_4 : Int32) => b0 (F_X5_count o_5 ((1 : Int32))) (fun r_6 o_7 => bd (fun (o_9 : OM) (s_8 : UInt64) => bd (fun (o_11 : OM) (s_10 : Int32) => grd (isZ s_10) (some (s_10, o_11))) (fun k255 => bd (fun (o_12 : OM) => k255 o_12 ((0 : Int32))) (fun k254 => if v4_4 = 0 then (k254 o_9) else (b0 (F_X5_count o_9 ((2 : Int32))) (fun r_13 o_14 => if v1_1 = r_13 then (b0 (F_X5_count o_14 ((3 : Int32))) (fun r_15 o_16 => if v2_2 = r_15 then (b0 (F_X5_count o_16 ((5 : Int32))) (fun r_17 o_18 => if v3_3 = r_17 then (bq (F_X5_validShare o_18) (fun r_19 => if (Op.cmpValue (FP.dcmp r_19 s_8) .l) = 0 then (k255 o_18 ((1 : Int32))) else (k254 o_18))) else (k254 o_18))) else (k254 o_16))) else (k254 o_14)))))) (fun k206 => if r_6 = 0 then (k206 o_7 FP.dconst1) else (bd (FP.dmul (FP.i2d v2_2) FP.dconst1) (fun w_20 : UInt64 => grd (n64 w_20) (b0 (F_X5_count o_7 ((1 : Int32))) (fun r_21 o_22 => bd (FP.ddiv w_20 (FP.i2d r_21)) (fun w_23 : UInt64 => grd (n64 w_23) (k206 o_22 w_23))))))))) (fun k183 => LL_areSums_12 k183 FU o ((0 : Int32)) ((0 : Int32)) ((0 : Int32)) ((1 : Int32)) ((0 : Int32)))
abbrev rmL_areSums : Room := { frames := 8, cells := 0, slots := 0, locals := 142 }
set_option maxHeartbeats 4000000 in
set_option maxRecDepth 100000 in
theorem lL_areSums_124 {G : Gd} {p : Program} {l : Launch} {e : Env} {s : State} {m : MethodId} {args : Array Value} {below : List Frame} {meth : Method} {c : Code} {r : Int32} {o9 : OM} {v5_28 : Int32} {v1_34 : Int32} {v2_37 : Int32} {v3_40 : Int32} (C : Cx G RL cL_areSums 7 (some .boolean) p s m args meth c) (X : XW G s) (hl9 : l.stackTraces = false)  {k177 : OM → Int32 → Option (Int32 × OM)} (j177 : ∀ (o_44 : OM) (v4_43 : Int32) H1 L1 ls, Hp G o_44 s H1 L1 → lv_has ls 7 [(0, .ref (rA G 0 0)), (1, .int v1_34), (2, .int v2_37), (3, .int v3_40), (4, .int v4_43), (5, .int v5_28)] → k177 o_44 v4_43 = some (r, o9) → W p l e rmL_areSums s m args below meth c H1 L1 0 0 (Qm G (some (.int r)) o9 rmL_areSums below args s) (F0 m 177 ls [])) : ∀ (n : Nat) (o_48 : OM) (v4_46 : Int32) (v6_47 : Int32) H1 L1 ls, Hp G o_48 s H1 L1 → lv_has ls 7 [(0, .ref (rA G 0 0)), (1, .int v1_34), (2, .int v2_37), (3, .int v3_40), (4, .int v4_46), (5, .int v5_28), (6, .int v6_47)] → LL_areSums_124 k177 v5_28 n o_48 v4_46 v6_47 = some (r, o9) → W p l e rmL_areSums s m args below meth c H1 L1 0 0 (Qm G (some (.int r)) o9 rmL_areSums below args s) (F0 m 124 ls []) := by
  intro n
  induction n with
  | zero =>
    intro o_48 v4_46 v6_47 H1 L1 ls P hl hf
    exact nomatch hf
  | succ n ih =>
    intro o_48 v4_46 v6_47 H1 L1 ls P hl hf
    rw [LL_areSums_124.eq_2] at hf
    refine r_iload C hl 6 rfl dL_areSums_124 ?_
    refine r_iload C hl 5 rfl dL_areSums_126 ?_
    refine r_icmp_ge C dL_areSums_128 hf (fun hf => ?_) (fun hf => ?_)
    · exact j177 o_48 v4_46 _ _ _ P (lv_sub hl [0, 1, 2, 3, 4, 5] rfl) hf
    · refine r_iload C hl 4 rfl dL_areSums_131 ?_
      refine r_jn (fun k169 : OM → Int32 → Option (Int32 × OM) => ∀ (o_50 : OM) (s_49 : Int32) H1 L1 ls, Hp G o_50 s H1 L1 → lv_has ls 7 [(0, .ref (rA G 0 0)), (1, .int v1_34), (2, .int v2_37), (3, .int v3_40), (5, .int v5_28), (6, .int v6_47)] → k169 o_50 s_49 = some (r, o9) → W p l e rmL_areSums s m args below meth c H1 L1 0 0 (Qm G (some (.int r)) o9 rmL_areSums below args s) (F0 m 169 ls [.int s_49])) hf ?_ (fun k169 j169 hf => ?_)
      · intro o_50 s_49 H1 L1 ls  P hl hf
        refine r_istore C [(4, .int s_49), (0, .ref (rA G 0 0)), (1, .int v1_34), (2, .int v2_37), (3, .int v3_40), (5, .int v5_28), (6, .int v6_47)] hl (by decide) rfl dL_areSums_169 (fun ls hl => ?_)
        refine r_iinc C (fun v6_51 => [(6, .int v6_51), (4, .int s_49), (0, .ref (rA G 0 0)), (1, .int v1_34), (2, .int v2_37), (3, .int v3_40), (5, .int v5_28)]) (w := 1) 6 hl rfl (by decide) (by decide) (fun _ => rfl) dL_areSums_171 hf (fun v6_51 ls hl hf => ?_)
        refine r_goto C dL_areSums_174 ?_
        exact ih o_50 s_49 v6_51 _ _ _ P (lv_sub hl [2, 3, 4, 5, 1, 6, 0] rfl) hf
      refine r_jn (fun k168 : OM → Option (Int32 × OM) => ∀ (o_52 : OM) H1 L1 ls, Hp G o_52 s H1 L1 → lv_has ls 7 [(0, .ref (rA G 0 0)), (1, .int v1_34), (2, .int v2_37), (3, .int v3_40), (5, .int v5_28), (6, .int v6_47)] → k168 o_52 = some (r, o9) → W p l e rmL_areSums s m args below meth c H1 L1 0 0 (Qm G (some (.int r)) o9 rmL_areSums below args s) (F0 m 168 ls [])) hf ?_ (fun k168 j168 hf => ?_)
      · intro o_52 H1 L1 ls  P hl hf
        refine r_iconst C (v := 0) (by decide) dL_areSums_168 ?_
        exact j169 o_52 ((0 : Int32)) _ _ _ P (lv_sub hl [0, 1, 2, 3, 4, 5] rfl) hf
      refine r_if_eq C dL_areSums_133 hf (fun hf => ?_) (fun hf => ?_)
      · exact j168 o_48 _ _ _ P (lv_sub hl [0, 1, 2, 3, 5, 6] rfl) hf
      · refine r_aload_n C hl 0 rfl rfl dL_areSums_136 ?_
        refine r_iload C hl 6 rfl dL_areSums_137 ?_
        refine r_iconst C (v := 5) (by decide) dL_areSums_139 ?_
        refine m_cVi C X P cf_L_61 (rm := rmX5_thermometer) rfl [.int v6_47, .int ((5 : Int32))] [] hf (fun _ _ h => ctX5_thermometer l G hl9 o_48 v6_47 ((5 : Int32)) h) ⟨Nat.le_of_ble_eq_true rfl, Nat.le_of_ble_eq_true rfl⟩ ⟨Nat.le_of_ble_eq_true rfl, Nat.le_of_ble_eq_true rfl⟩ rfl rfl hl.1 (Nat.le_of_ble_eq_true rfl) dL_areSums_140 (fun r_53 o_54 H1 L1 P hf => ?_)
        refine r_iconst C (v := -1) (by decide) dL_areSums_143 ?_
        refine r_jn (fun k164 : OM → Option (Int32 × OM) => ∀ (o_55 : OM) H1 L1 ls, Hp G o_55 s H1 L1 → lv_has ls 7 [(0, .ref (rA G 0 0)), (1, .int v1_34), (2, .int v2_37), (3, .int v3_40), (5, .int v5_28), (6, .int v6_47)] → k164 o_55 = some (r, o9) → W p l e rmL_areSums s m args below meth c H1 L1 0 0 (Qm G (some (.int r)) o9 rmL_areSums below args s) (F0 m 164 ls [])) hf ?_ (fun k164 j164 hf => ?_)
        · intro o_55 H1 L1 ls  P hl hf
          refine r_iconst C (v := 1) (by decide) dL_areSums_164 ?_
          refine r_goto C dL_areSums_165 ?_
          exact j169 o_55 ((1 : Int32)) _ _ _ P (lv_sub hl [0, 1, 2, 3, 4, 5] rfl) hf
        refine r_icmp_eq C dL_areSums_144 hf (fun hf => ?_) (fun hf => ?_)
        · exact j164 o_54 _ _ _ P (lv_sub hl [0, 1, 2, 3, 5, 6] rfl) hf
        · refine r_aload_n C hl 0 rfl rfl dL_areSums_147 ?_
          refine r_iload C hl 6 rfl dL_areSums_148 ?_
          refine r_iconst C (v := 5) (by decide) dL_areSums_150 ?_
          refine m_cVi C X P cf_L_61 (rm := rmX5_thermometer) rfl [.int v6_47, .int ((5 : Int32))] [] hf (fun _ _ h => ctX5_thermometer l G hl9 o_54 v6_47 ((5 : Int32)) h) ⟨Nat.le_of_ble_eq_true rfl, Nat.le_of_ble_eq_true rfl⟩ ⟨Nat.le_of_ble_eq_true rfl, Nat.le_of_ble_eq_true rfl⟩ rfl rfl hl.1 (Nat.le_of_ble_eq_true rfl) dL_areSums_151 (fun r_56 o_57 H1 L1 P hf => ?_)
          refine r_aload_n C hl 0 rfl rfl dL_areSums_154 ?_
          refine r_iload C hl 5 rfl dL_areSums_155 ?_
          refine r_iconst C (v := 5) (by decide) dL_areSums_157 ?_
          refine m_cVi C X P cf_L_61 (rm := rmX5_thermometer) rfl [.int v5_28, .int ((5 : Int32))] [.int r_56] hf (fun _ _ h => ctX5_thermometer l G hl9 o_57 v5_28 ((5 : Int32)) h) ⟨Nat.le_of_ble_eq_true rfl, Nat.le_of_ble_eq_true rfl⟩ ⟨Nat.le_of_ble_eq_true rfl, Nat.le_of_ble_eq_true rfl⟩ rfl rfl hl.1 (Nat.le_of_ble_eq_true rfl) dL_areSums_158 (fun r_58 o_59 H1 L1 P hf => ?_)
          refine r_icmp_eq C dL_areSums_161 hf (fun hf => ?_) (fun hf => ?_)
          · exact j168 o_59 _ _ _ P (lv_sub hl [0, 1, 2, 3, 5, 6] rfl) hf
          · exact j164 o_59 _ _ _ P (lv_sub hl [0, 1, 2, 3, 5, 6] rfl) hf
set_option maxHeartbeats 4000000 in
set_option maxRecDepth 100000 in
theorem lL_areSums_12 {G : Gd} {p : Program} {l : Launch} {e : Env} {s : State} {m : MethodId} {args : Array Value} {below : List Frame} {meth : Method} {c : Code} {r : Int32} {o9 : OM}  (C : Cx G RL cL_areSums 7 (some .boolean) p s m args meth c) (X : XW G s) (hl9 : l.stackTraces = false)  {k183 : OM → Int32 → Int32 → Int32 → Int32 → Option (Int32 × OM)} (j183 : ∀ (o_5 : OM) (v1_1 : Int32) (v2_2 : Int32) (v3_3 : Int32) (v4_4 : Int32) H1 L1 ls, Hp G o_5 s H1 L1 → lv_has ls 7 [(0, .ref (rA G 0 0)), (1, .int v1_1), (2, .int v2_2), (3, .int v3_3), (4, .int v4_4)] → k183 o_5 v1_1 v2_2 v3_3 v4_4 = some (r, o9) → W p l e rmL_areSums s m args below meth c H1 L1 0 0 (Qm G (some (.int r)) o9 rmL_areSums below args s) (F0 m 183 ls [])) : ∀ (n : Nat) (o_29 : OM) (v1_24 : Int32) (v2_25 : Int32) (v3_26 : Int32) (v4_27 : Int32) (v5_28 : Int32) H1 L1 ls, Hp G o_29 s H1 L1 → lv_has ls 7 [(0, .ref (rA G 0 0)), (1, .int v1_24), (2, .int v2_25), (3, .int v3_26), (4, .int v4_27), (5, .int v5_28)] → LL_areSums_12 k183 n o_29 v1_24 v2_25 v3_26 v4_27 v5_28 = some (r, o9) → W p l e rmL_areSums s m args below meth c H1 L1 0 0 (Qm G (some (.int r)) o9 rmL_areSums below args s) (F0 m 12 ls []) := by
  intro n
  induction n with
  | zero =>
    intro o_29 v1_24 v2_25 v3_26 v4_27 v5_28 H1 L1 ls P hl hf
    exact nomatch hf
  | succ n ih =>
    intro o_29 v1_24 v2_25 v3_26 v4_27 v5_28 H1 L1 ls P hl hf
    rw [LL_areSums_12.eq_2] at hf
    refine r_iload C hl 5 rfl dL_areSums_12 ?_
    refine r_aload_n C hl 0 rfl rfl dL_areSums_14 ?_
    refine r_iconst C (v := 1) (by decide) dL_areSums_15 ?_
    refine m_cVi C X P cf_L_48 (rm := rmX5_count) rfl [.int ((1 : Int32))] [.int v5_28] hf (fun _ _ h => ctX5_count l G hl9 o_29 ((1 : Int32)) h) ⟨Nat.le_of_ble_eq_true rfl, Nat.le_of_ble_eq_true rfl⟩ ⟨Nat.le_of_ble_eq_true rfl, Nat.le_of_ble_eq_true rfl⟩ rfl rfl hl.1 (Nat.le_of_ble_eq_true rfl) dL_areSums_16 (fun r_30 o_31 H1 L1 P hf => ?_)
    refine r_icmp_ge C dL_areSums_19 hf (fun hf => ?_) (fun hf => ?_)
    · exact j183 o_31 v1_24 v2_25 v3_26 v4_27 _ _ _ P (lv_sub hl [0, 1, 2, 3, 4] rfl) hf
    · refine r_iload_n C hl 1 rfl rfl dL_areSums_22 ?_
      refine r_aload_n C hl 0 rfl rfl dL_areSums_23 ?_
      refine r_iload C hl 5 rfl dL_areSums_24 ?_
      refine r_iconst C (v := 3) (by decide) dL_areSums_26 ?_
      refine m_cVi C X P cf_L_61 (rm := rmX5_thermometer) rfl [.int v5_28, .int ((3 : Int32))] [.int v1_24] hf (fun _ _ h => ctX5_thermometer l G hl9 o_31 v5_28 ((3 : Int32)) h) ⟨Nat.le_of_ble_eq_true rfl, Nat.le_of_ble_eq_true rfl⟩ ⟨Nat.le_of_ble_eq_true rfl, Nat.le_of_ble_eq_true rfl⟩ rfl rfl hl.1 (Nat.le_of_ble_eq_true rfl) dL_areSums_27 (fun r_32 o_33 H1 L1 P hf => ?_)
      refine r_iadd2 C dL_areSums_30 ?_
      refine r_bdi hf (fun v1_34 hf => ?_)
      refine r_istore_n C [(1, .int v1_34), (0, .ref (rA G 0 0)), (2, .int v2_25), (3, .int v3_26), (4, .int v4_27), (5, .int v5_28)] hl (by decide) rfl rfl dL_areSums_31 (fun ls hl => ?_)
      refine r_iload_n C hl 2 rfl rfl dL_areSums_32 ?_
      refine r_aload_n C hl 1 rfl rfl dL_areSums_33 ?_
      refine r_iload C hl 5 rfl dL_areSums_34 ?_
      refine r_bipush C (v := 6) (by decide) dL_areSums_36 ?_
      refine m_cVi C X P cf_L_61 (rm := rmX5_thermometer) rfl [.int v5_28, .int ((6 : Int32))] [.int v2_25] hf (fun _ _ h => ctX5_thermometer l G hl9 o_33 v5_28 ((6 : Int32)) h) ⟨Nat.le_of_ble_eq_true rfl, Nat.le_of_ble_eq_true rfl⟩ ⟨Nat.le_of_ble_eq_true rfl, Nat.le_of_ble_eq_true rfl⟩ rfl rfl hl.1 (Nat.le_of_ble_eq_true rfl) dL_areSums_38 (fun r_35 o_36 H1 L1 P hf => ?_)
      refine r_iadd2 C dL_areSums_41 ?_
      refine r_bdi hf (fun v2_37 hf => ?_)
      refine r_istore_n C [(2, .int v2_37), (1, .int v1_34), (0, .ref (rA G 0 0)), (3, .int v3_26), (4, .int v4_27), (5, .int v5_28)] hl (by decide) rfl rfl dL_areSums_42 (fun ls hl => ?_)
      refine r_iload_n C hl 3 rfl rfl dL_areSums_43 ?_
      refine r_aload_n C hl 2 rfl rfl dL_areSums_44 ?_
      refine r_iload C hl 5 rfl dL_areSums_45 ?_
      refine r_iconst C (v := 2) (by decide) dL_areSums_47 ?_
      refine m_cVi C X P cf_L_61 (rm := rmX5_thermometer) rfl [.int v5_28, .int ((2 : Int32))] [.int v3_26] hf (fun _ _ h => ctX5_thermometer l G hl9 o_36 v5_28 ((2 : Int32)) h) ⟨Nat.le_of_ble_eq_true rfl, Nat.le_of_ble_eq_true rfl⟩ ⟨Nat.le_of_ble_eq_true rfl, Nat.le_of_ble_eq_true rfl⟩ rfl rfl hl.1 (Nat.le_of_ble_eq_true rfl) dL_areSums_48 (fun r_38 o_39 H1 L1 P hf => ?_)
      refine r_iadd2 C dL_areSums_51 ?_
      refine r_bdi hf (fun v3_40 hf => ?_)
      refine r_istore_n C [(3, .int v3_40), (2, .int v2_37), (1, .int v1_34), (0, .ref (rA G 0 0)), (4, .int v4_27), (5, .int v5_28)] hl (by decide) rfl rfl dL_areSums_52 (fun ls hl => ?_)
      refine r_iload C hl 4 rfl dL_areSums_53 ?_
      refine r_jn (fun k119 : OM → Int32 → Option (Int32 × OM) => ∀ (o_42 : OM) (s_41 : Int32) H1 L1 ls, Hp G o_42 s H1 L1 → lv_has ls 7 [(0, .ref (rA G 0 0)), (1, .int v1_34), (2, .int v2_37), (3, .int v3_40), (5, .int v5_28)] → k119 o_42 s_41 = some (r, o9) → W p l e rmL_areSums s m args below meth c H1 L1 0 0 (Qm G (some (.int r)) o9 rmL_areSums below args s) (F0 m 119 ls [.int s_41])) hf ?_ (fun k119 j119 hf => ?_)
      · intro o_42 s_41 H1 L1 ls  P hl hf
        refine r_istore C [(4, .int s_41), (0, .ref (rA G 0 0)), (1, .int v1_34), (2, .int v2_37), (3, .int v3_40), (5, .int v5_28)] hl (by decide) rfl dL_areSums_119 (fun ls hl => ?_)
        refine r_iconst C (v := 0) (by decide) dL_areSums_121 ?_
        refine r_istore C [(6, .int ((0 : Int32))), (4, .int s_41), (0, .ref (rA G 0 0)), (1, .int v1_34), (2, .int v2_37), (3, .int v3_40), (5, .int v5_28)] hl (by decide) rfl dL_areSums_122 (fun ls hl => ?_)
        refine r_jn (fun k177 : OM → Int32 → Option (Int32 × OM) => ∀ (o_44 : OM) (v4_43 : Int32) H1 L1 ls, Hp G o_44 s H1 L1 → lv_has ls 7 [(0, .ref (rA G 0 0)), (1, .int v1_34), (2, .int v2_37), (3, .int v3_40), (4, .int v4_43), (5, .int v5_28)] → k177 o_44 v4_43 = some (r, o9) → W p l e rmL_areSums s m args below meth c H1 L1 0 0 (Qm G (some (.int r)) o9 rmL_areSums below args s) (F0 m 177 ls [])) hf ?_ (fun k177 j177 hf => ?_)
        · intro o_44 v4_43 H1 L1 ls  P hl hf
          refine r_iinc C (fun v5_45 => [(5, .int v5_45), (0, .ref (rA G 0 0)), (1, .int v1_34), (2, .int v2_37), (3, .int v3_40), (4, .int v4_43)]) (w := 1) 5 hl rfl (by decide) (by decide) (fun _ => rfl) dL_areSums_177 hf (fun v5_45 ls hl hf => ?_)
          refine r_goto C dL_areSums_180 ?_
          exact ih o_44 v1_34 v2_37 v3_40 v4_43 v5_45 _ _ _ P (lv_sub hl [1, 2, 3, 4, 5, 0] rfl) hf
        exact lL_areSums_124 C X hl9  j177 FU o_42 s_41 ((0 : Int32)) _ _ _ P (lv_sub hl [2, 3, 4, 5, 1, 6, 0] rfl) hf
      refine r_jn (fun k118 : OM → Option (Int32 × OM) => ∀ (o_60 : OM) H1 L1 ls, Hp G o_60 s H1 L1 → lv_has ls 7 [(0, .ref (rA G 0 0)), (1, .int v1_34), (2, .int v2_37), (3, .int v3_40), (5, .int v5_28)] → k118 o_60 = some (r, o9) → W p l e rmL_areSums s m args below meth c H1 L1 0 0 (Qm G (some (.int r)) o9 rmL_areSums below args s) (F0 m 118 ls [])) hf ?_ (fun k118 j118 hf => ?_)
      · intro o_60 H1 L1 ls  P hl hf
        refine r_iconst C (v := 0) (by decide) dL_areSums_118 ?_
        exact j119 o_60 ((0 : Int32)) _ _ _ P (lv_sub hl [0, 1, 2, 3, 4] rfl) hf
      refine r_if_eq C dL_areSums_55 hf (fun hf => ?_) (fun hf => ?_)
      · exact j118 o_39 _ _ _ P (lv_sub hl [3, 2, 1, 0, 5] rfl) hf
      · refine r_aload_n C hl 3 rfl rfl dL_areSums_58 ?_
        refine r_iload C hl 5 rfl dL_areSums_59 ?_
        refine r_iconst C (v := 1) (by decide) dL_areSums_61 ?_
        refine m_cVi C X P cf_L_61 (rm := rmX5_thermometer) rfl [.int v5_28, .int ((1 : Int32))] [] hf (fun _ _ h => ctX5_thermometer l G hl9 o_39 v5_28 ((1 : Int32)) h) ⟨Nat.le_of_ble_eq_true rfl, Nat.le_of_ble_eq_true rfl⟩ ⟨Nat.le_of_ble_eq_true rfl, Nat.le_of_ble_eq_true rfl⟩ rfl rfl hl.1 (Nat.le_of_ble_eq_true rfl) dL_areSums_62 (fun r_61 o_62 H1 L1 P hf => ?_)
        refine r_if_lt C dL_areSums_65 hf (fun hf => ?_) (fun hf => ?_)
        · exact j118 o_62 _ _ _ P (lv_sub hl [3, 2, 1, 0, 5] rfl) hf
        · refine r_aload_n C hl 3 rfl rfl dL_areSums_68 ?_
          refine r_iload C hl 5 rfl dL_areSums_69 ?_
          refine r_iconst C (v := 1) (by decide) dL_areSums_71 ?_
          refine m_cVi C X P cf_L_61 (rm := rmX5_thermometer) rfl [.int v5_28, .int ((1 : Int32))] [] hf (fun _ _ h => ctX5_thermometer l G hl9 o_62 v5_28 ((1 : Int32)) h) ⟨Nat.le_of_ble_eq_true rfl, Nat.le_of_ble_eq_true rfl⟩ ⟨Nat.le_of_ble_eq_true rfl, Nat.le_of_ble_eq_true rfl⟩ rfl rfl hl.1 (Nat.le_of_ble_eq_true rfl) dL_areSums_72 (fun r_63 o_64 H1 L1 P hf => ?_)
          refine r_aload_n C hl 3 rfl rfl dL_areSums_75 ?_
          refine r_iconst C (v := 0) (by decide) dL_areSums_76 ?_
          refine m_cVi C X P cf_L_48 (rm := rmX5_count) rfl [.int ((0 : Int32))] [.int r_63] hf (fun _ _ h => ctX5_count l G hl9 o_64 ((0 : Int32)) h) ⟨Nat.le_of_ble_eq_true rfl, Nat.le_of_ble_eq_true rfl⟩ ⟨Nat.le_of_ble_eq_true rfl, Nat.le_of_ble_eq_true rfl⟩ rfl rfl hl.1 (Nat.le_of_ble_eq_true rfl) dL_areSums_77 (fun r_65 o_66 H1 L1 P hf => ?_)
          refine r_icmp_gt C dL_areSums_80 hf (fun hf => ?_) (fun hf => ?_)
          · exact j118 o_66 _ _ _ P (lv_sub hl [3, 2, 1, 0, 5] rfl) hf
          · refine r_aload_n C hl 3 rfl rfl dL_areSums_83 ?_
            refine r_iload C hl 5 rfl dL_areSums_84 ?_
            refine r_iconst C (v := 2) (by decide) dL_areSums_86 ?_
            refine m_cVi C X P cf_L_61 (rm := rmX5_thermometer) rfl [.int v5_28, .int ((2 : Int32))] [] hf (fun _ _ h => ctX5_thermometer l G hl9 o_66 v5_28 ((2 : Int32)) h) ⟨Nat.le_of_ble_eq_true rfl, Nat.le_of_ble_eq_true rfl⟩ ⟨Nat.le_of_ble_eq_true rfl, Nat.le_of_ble_eq_true rfl⟩ rfl rfl hl.1 (Nat.le_of_ble_eq_true rfl) dL_areSums_87 (fun r_67 o_68 H1 L1 P hf => ?_)
            refine r_if_lt C dL_areSums_90 hf (fun hf => ?_) (fun hf => ?_)
            · exact j118 o_68 _ _ _ P (lv_sub hl [3, 2, 1, 0, 5] rfl) hf
            · refine r_aload_n C hl 3 rfl rfl dL_areSums_93 ?_
              refine r_iload C hl 5 rfl dL_areSums_94 ?_
              refine r_iconst C (v := 0) (by decide) dL_areSums_96 ?_
              refine m_cVi C X P cf_L_61 (rm := rmX5_thermometer) rfl [.int v5_28, .int ((0 : Int32))] [] hf (fun _ _ h => ctX5_thermometer l G hl9 o_68 v5_28 ((0 : Int32)) h) ⟨Nat.le_of_ble_eq_true rfl, Nat.le_of_ble_eq_true rfl⟩ ⟨Nat.le_of_ble_eq_true rfl, Nat.le_of_ble_eq_true rfl⟩ rfl rfl hl.1 (Nat.le_of_ble_eq_true rfl) dL_areSums_97 (fun r_69 o_70 H1 L1 P hf => ?_)
              refine r_if_lt C dL_areSums_100 hf (fun hf => ?_) (fun hf => ?_)
              · exact j118 o_70 _ _ _ P (lv_sub hl [3, 2, 1, 0, 5] rfl) hf
              · refine r_aload_n C hl 3 rfl rfl dL_areSums_103 ?_
                refine r_iload C hl 5 rfl dL_areSums_104 ?_
                refine r_iconst C (v := 0) (by decide) dL_areSums_106 ?_
                refine m_cVi C X P cf_L_61 (rm := rmX5_thermometer) rfl [.int v5_28, .int ((0 : Int32))] [] hf (fun _ _ h => ctX5_thermometer l G hl9 o_70 v5_28 ((0 : Int32)) h) ⟨Nat.le_of_ble_eq_true rfl, Nat.le_of_ble_eq_true rfl⟩ ⟨Nat.le_of_ble_eq_true rfl, Nat.le_of_ble_eq_true rfl⟩ rfl rfl hl.1 (Nat.le_of_ble_eq_true rfl) dL_areSums_107 (fun r_71 o_72 H1 L1 P hf => ?_)
                refine r_iconst C (v := 4) (by decide) dL_areSums_110 ?_
                refine r_icmp_ge C dL_areSums_111 hf (fun hf => ?_) (fun hf => ?_)
                · exact j118 o_72 _ _ _ P (lv_sub hl [3, 2, 1, 0, 5] rfl) hf
                · refine r_iconst C (v := 1) (by decide) dL_areSums_114 ?_
                  refine r_goto C dL_areSums_115 ?_
                  exact j119 o_72 ((1 : Int32)) _ _ _ P (lv_sub hl [3, 2, 1, 0, 5] rfl) hf
set_option maxHeartbeats 4000000 in
set_option maxRecDepth 100000 in
theorem wL_areSums {G : Gd} {p : Program} {l : Launch} {e : Env} {s : State} {m : MethodId} {args : Array Value} {below : List Frame} {meth : Method} {c : Code} {o : OM} {H : Heap} {L0 : List Loc} {ls : Array Slot} {r : Int32} {o9 : OM}  (C : Cx G RL cL_areSums 7 (some .boolean) p s m args meth c) (X : XW G s) (hl9 : l.stackTraces = false)  (P : Hp G o s H L0) (hl : lv_has ls 7 [(0, .ref (rA G 0 0))]) (hf : F_L_areSums o  = some (r, o9)) : W p l e rmL_areSums s m args below meth c H L0 0 0 (Qm G (some (.int r)) o9 rmL_areSums below args s) (F0 m 0 ls []) := by
  unfold F_L_areSums at hf
  refine r_iconst C (v := 0) (by decide) dL_areSums_0 ?_
  refine r_istore_n C [(1, .int ((0 : Int32))), (0, .ref (rA G 0 0))] hl (by decide) rfl rfl dL_areSums_1 (fun ls hl => ?_)
  refine r_iconst C (v := 0) (by decide) dL_areSums_2 ?_
  refine r_istore_n C [(2, .int ((0 : Int32))), (1, .int ((0 : Int32))), (0, .ref (rA G 0 0))] hl (by decide) rfl rfl dL_areSums_3 (fun ls hl => ?_)
  refine r_iconst C (v := 0) (by decide) dL_areSums_4 ?_
  refine r_istore_n C [(3, .int ((0 : Int32))), (2, .int ((0 : Int32))), (1, .int ((0 : Int32))), (0, .ref (rA G 0 0))] hl (by decide) rfl rfl dL_areSums_5 (fun ls hl => ?_)
  refine r_iconst C (v := 1) (by decide) dL_areSums_6 ?_
  refine r_istore C [(4, .int ((1 : Int32))), (3, .int ((0 : Int32))), (2, .int ((0 : Int32))), (1, .int ((0 : Int32))), (0, .ref (rA G 0 0))] hl (by decide) rfl dL_areSums_7 (fun ls hl => ?_)
  refine r_iconst C (v := 0) (by decide) dL_areSums_9 ?_
  refine r_istore C [(5, .int ((0 : Int32))), (4, .int ((1 : Int32))), (3, .int ((0 : Int32))), (2, .int ((0 : Int32))), (1, .int ((0 : Int32))), (0, .ref (rA G 0 0))] hl (by decide) rfl dL_areSums_10 (fun ls hl => ?_)
  refine r_jn (fun k183 : OM → Int32 → Int32 → Int32 → Int32 → Option (Int32 × OM) => ∀ (o_5 : OM) (v1_1 : Int32) (v2_2 : Int32) (v3_3 : Int32) (v4_4 : Int32) H1 L1 ls, Hp G o_5 s H1 L1 → lv_has ls 7 [(0, .ref (rA G 0 0)), (1, .int v1_1), (2, .int v2_2), (3, .int v3_3), (4, .int v4_4)] → k183 o_5 v1_1 v2_2 v3_3 v4_4 = some (r, o9) → W p l e rmL_areSums s m args below meth c H1 L1 0 0 (Qm G (some (.int r)) o9 rmL_areSums below args s) (F0 m 183 ls [])) hf ?_ (fun k183 j183 hf => ?_)
  · intro o_5 v1_1 v2_2 v3_3 v4_4 H1 L1 ls  P hl hf
    refine r_aload_n C hl 0 rfl rfl dL_areSums_183 ?_
    refine r_iconst C (v := 1) (by decide) dL_areSums_184 ?_
    refine m_cVi C X P cf_L_48 (rm := rmX5_count) rfl [.int ((1 : Int32))] [] hf (fun _ _ h => ctX5_count l G hl9 o_5 ((1 : Int32)) h) ⟨Nat.le_of_ble_eq_true rfl, Nat.le_of_ble_eq_true rfl⟩ ⟨Nat.le_of_ble_eq_true rfl, Nat.le_of_ble_eq_true rfl⟩ rfl rfl hl.1 (Nat.le_of_ble_eq_true rfl) dL_areSums_185 (fun r_6 o_7 H1 L1 P hf => ?_)
    refine r_jn (fun k206 : OM → UInt64 → Option (Int32 × OM) => ∀ (o_9 : OM) (s_8 : UInt64) H1 L1 ls, Hp G o_9 s H1 L1 → lv_has ls 7 [(0, .ref (rA G 0 0)), (1, .int v1_1), (2, .int v2_2), (3, .int v3_3), (4, .int v4_4)] → k206 o_9 s_8 = some (r, o9) → W p l e rmL_areSums s m args below meth c H1 L1 0 0 (Qm G (some (.int r)) o9 rmL_areSums below args s) (F0 m 206 ls [.double s_8])) hf ?_ (fun k206 j206 hf => ?_)
    · intro o_9 s_8 H1 L1 ls  P hl hf
      refine r_dstore C [(5, .double s_8), (0, .ref (rA G 0 0)), (1, .int v1_1), (2, .int v2_2), (3, .int v3_3), (4, .int v4_4)] hl (by decide) rfl dL_areSums_206 (fun ls hl => ?_)
      refine r_iload C hl 5 rfl dL_areSums_208 ?_
      refine r_jn (fun k255 : OM → Int32 → Option (Int32 × OM) => ∀ (o_11 : OM) (s_10 : Int32) H1 L1 ls, Hp G o_11 s H1 L1 → lv_has ls 7 [] → k255 o_11 s_10 = some (r, o9) → W p l e rmL_areSums s m args below meth c H1 L1 0 0 (Qm G (some (.int r)) o9 rmL_areSums below args s) (F0 m 255 ls [.int s_10])) hf ?_ (fun k255 j255 hf => ?_)
      · intro o_11 s_10 H1 L1 ls  P hl hf
        exact r_zret C P (rm := rmL_areSums) ⟨rfl, rfl⟩ dL_areSums_255 hf
      refine r_jn (fun k254 : OM → Option (Int32 × OM) => ∀ (o_12 : OM) H1 L1 ls, Hp G o_12 s H1 L1 → lv_has ls 7 [] → k254 o_12 = some (r, o9) → W p l e rmL_areSums s m args below meth c H1 L1 0 0 (Qm G (some (.int r)) o9 rmL_areSums below args s) (F0 m 254 ls [])) hf ?_ (fun k254 j254 hf => ?_)
      · intro o_12 H1 L1 ls  P hl hf
        refine r_iconst C (v := 0) (by decide) dL_areSums_254 ?_
        exact j255 o_12 ((0 : Int32)) _ _ _ P (lv_sub hl [] rfl) hf
      refine r_if_eq C dL_areSums_210 hf (fun hf => ?_) (fun hf => ?_)
      · exact j254 o_9 _ _ _ P (lv_sub hl [] rfl) hf
      · refine r_iload_n C hl 2 rfl rfl dL_areSums_213 ?_
        refine r_aload_n C hl 1 rfl rfl dL_areSums_214 ?_
        refine r_iconst C (v := 2) (by decide) dL_areSums_215 ?_
        refine m_cVi C X P cf_L_48 (rm := rmX5_count) rfl [.int ((2 : Int32))] [.int v1_1] hf (fun _ _ h => ctX5_count l G hl9 o_9 ((2 : Int32)) h) ⟨Nat.le_of_ble_eq_true rfl, Nat.le_of_ble_eq_true rfl⟩ ⟨Nat.le_of_ble_eq_true rfl, Nat.le_of_ble_eq_true rfl⟩ rfl rfl hl.1 (Nat.le_of_ble_eq_true rfl) dL_areSums_216 (fun r_13 o_14 H1 L1 P hf => ?_)
        refine r_icmp_ne C dL_areSums_219 hf (fun hf => ?_) (fun hf => ?_)
        · exact j254 o_14 _ _ _ P (lv_sub hl [] rfl) hf
        · refine r_iload_n C hl 3 rfl rfl dL_areSums_222 ?_
          refine r_aload_n C hl 1 rfl rfl dL_areSums_223 ?_
          refine r_iconst C (v := 3) (by decide) dL_areSums_224 ?_
          refine m_cVi C X P cf_L_48 (rm := rmX5_count) rfl [.int ((3 : Int32))] [.int v2_2] hf (fun _ _ h => ctX5_count l G hl9 o_14 ((3 : Int32)) h) ⟨Nat.le_of_ble_eq_true rfl, Nat.le_of_ble_eq_true rfl⟩ ⟨Nat.le_of_ble_eq_true rfl, Nat.le_of_ble_eq_true rfl⟩ rfl rfl hl.1 (Nat.le_of_ble_eq_true rfl) dL_areSums_225 (fun r_15 o_16 H1 L1 P hf => ?_)
          refine r_icmp_ne C dL_areSums_228 hf (fun hf => ?_) (fun hf => ?_)
          · exact j254 o_16 _ _ _ P (lv_sub hl [] rfl) hf
          · refine r_iload_n C hl 4 rfl rfl dL_areSums_231 ?_
            refine r_aload_n C hl 1 rfl rfl dL_areSums_232 ?_
            refine r_iconst C (v := 5) (by decide) dL_areSums_233 ?_
            refine m_cVi C X P cf_L_48 (rm := rmX5_count) rfl [.int ((5 : Int32))] [.int v3_3] hf (fun _ _ h => ctX5_count l G hl9 o_16 ((5 : Int32)) h) ⟨Nat.le_of_ble_eq_true rfl, Nat.le_of_ble_eq_true rfl⟩ ⟨Nat.le_of_ble_eq_true rfl, Nat.le_of_ble_eq_true rfl⟩ rfl rfl hl.1 (Nat.le_of_ble_eq_true rfl) dL_areSums_234 (fun r_17 o_18 H1 L1 P hf => ?_)
            refine r_icmp_ne C dL_areSums_237 hf (fun hf => ?_) (fun hf => ?_)
            · exact j254 o_18 _ _ _ P (lv_sub hl [] rfl) hf
            · refine r_aload_n C hl 1 rfl rfl dL_areSums_240 ?_
              refine r_qVd C P cf_L_87 (rm := rmX5_validShare) 0 0 (fun _ _ => ⟨_, rfl⟩) rfl rfl rfl [] [] hf (fun _ h => ctX5_validShare l G o_18 h) ⟨rfl, rfl⟩ ⟨Nat.le_of_ble_eq_true rfl, Nat.le_of_ble_eq_true rfl⟩ ⟨Nat.le_of_ble_eq_true rfl, Nat.le_of_ble_eq_true rfl⟩ rfl rfl hl.1 (Nat.le_of_ble_eq_true rfl) dL_areSums_241 (fun r_19 H1 L1 P hf => ?_)
              refine r_dload C hl 0 rfl dL_areSums_244 ?_
              refine r_dcmp C dL_areSums_246 ?_
              refine r_if_ne C dL_areSums_247 hf (fun hf => ?_) (fun hf => ?_)
              · exact j254 o_18 _ _ _ P (lv_sub hl [] rfl) hf
              · refine r_iconst C (v := 1) (by decide) dL_areSums_250 ?_
                refine r_goto C dL_areSums_251 ?_
                exact j255 o_18 ((1 : Int32)) _ _ _ P (lv_sub hl [] rfl) hf
    refine r_if_ne C dL_areSums_188 hf (fun hf => ?_) (fun hf => ?_)
    · refine r_iload_n C hl 2 rfl rfl dL_areSums_195 ?_
      refine r_i2d C dL_areSums_196 ?_
      refine r_dconst1 C dL_areSums_197 ?_
      refine r_dmul C dL_areSums_198 hf (fun w_20 hf => ?_)
      refine r_aload_n C hl 0 rfl rfl dL_areSums_199 ?_
      refine r_iconst C (v := 1) (by decide) dL_areSums_200 ?_
      refine m_cVi C X P cf_L_48 (rm := rmX5_count) rfl [.int ((1 : Int32))] [.double w_20] hf (fun _ _ h => ctX5_count l G hl9 o_7 ((1 : Int32)) h) ⟨Nat.le_of_ble_eq_true rfl, Nat.le_of_ble_eq_true rfl⟩ ⟨Nat.le_of_ble_eq_true rfl, Nat.le_of_ble_eq_true rfl⟩ rfl rfl hl.1 (Nat.le_of_ble_eq_true rfl) dL_areSums_201 (fun r_21 o_22 H1 L1 P hf => ?_)
      refine r_i2d C dL_areSums_204 ?_
      refine r_ddiv C dL_areSums_205 hf (fun w_23 hf => ?_)
      exact j206 o_22 w_23 _ _ _ P (lv_sub hl [0, 1, 2, 3, 4] rfl) hf
    · refine r_dconst1 C dL_areSums_191 ?_
      refine r_goto C dL_areSums_192 ?_
      exact j206 o_7 FP.dconst1 _ _ _ P (lv_sub hl [0, 1, 2, 3, 4] rfl) hf
  exact lL_areSums_12 C X hl9  j183 FU o ((0 : Int32)) ((0 : Int32)) ((0 : Int32)) ((1 : Int32)) ((0 : Int32)) _ _ _ P (lv_sub hl [5, 4, 3, 2, 1, 0] rfl) hf
theorem ctL_areSums (l : Launch) (G : Gd) (hl9 : l.stackTraces = false) (o : OM)   {r : Int32} {o9 : OM} (hf : F_L_areSums o  = some (r, o9)) : Ctm l yL_areSums cL_areSums 7 (some .boolean) rmL_areSums G [.ref (rA G 0 0)] o (some (.int r)) o9 := ctm_of (by decide +kernel) (Nat.le_of_ble_eq_true rfl) (fun p e s m below meth c ls C X P hl => wL_areSums C X hl9  P hl hf)
