theorem cf_L_61 : CallF false RL 61 yX5_thermometer cX5_thermometer 4 (some .int) 2 := ⟨wd_570, (by rw [if_neg (by decide)]; exact ⟨wd_571, wd_572⟩), wd_10, wd_573, by decide, by decide +kernel⟩
theorem cf_L_80 : CallF false RL 80 yX5_voidIn cX5_voidIn 2 (some .int) 1 := ⟨wd_629, (by rw [if_neg (by decide)]; exact ⟨wd_630, wd_631⟩), wd_10, wd_632, by decide, by decide +kernel⟩
theorem cf_L_83 : CallF false RL 83 yX5_undo cX5_undo 1 (some .int) 0 := ⟨wd_223, (by rw [if_neg (by decide)]; exact ⟨wd_224, wd_225⟩), wd_10, wd_226, by decide, by decide +kernel⟩
theorem dL_arePapersSo_0 : Dc cL_arePapersSo 0 (.aload_n 0) 1 1 := ⟨by decide +kernel, rfl⟩
theorem dL_arePapersSo_1 : Dc cL_arePapersSo 1 (.iload_n 1) 1 2 := ⟨by decide +kernel, rfl⟩
theorem dL_arePapersSo_2 : Dc cL_arePapersSo 2 (.iconst 5) 1 3 := ⟨by decide +kernel, rfl⟩
theorem dL_arePapersSo_3 : Dc cL_arePapersSo 3 (.invokevirtual 61) 3 6 := ⟨by decide +kernel, rfl⟩
theorem dL_arePapersSo_6 : Dc cL_arePapersSo 6 (.istore_n 3) 1 7 := ⟨by decide +kernel, rfl⟩
theorem dL_arePapersSo_7 : Dc cL_arePapersSo 7 (.aload_n 0) 1 8 := ⟨by decide +kernel, rfl⟩
theorem dL_arePapersSo_8 : Dc cL_arePapersSo 8 (.iload_n 1) 1 9 := ⟨by decide +kernel, rfl⟩
theorem dL_arePapersSo_9 : Dc cL_arePapersSo 9 (.bipush 6) 2 11 := ⟨by decide +kernel, rfl⟩
theorem dL_arePapersSo_11 : Dc cL_arePapersSo 11 (.invokevirtual 61) 3 14 := ⟨by decide +kernel, rfl⟩
theorem dL_arePapersSo_14 : Dc cL_arePapersSo 14 (.istore 4) 2 16 := ⟨by decide +kernel, rfl⟩
theorem dL_arePapersSo_16 : Dc cL_arePapersSo 16 (.aload_n 0) 1 17 := ⟨by decide +kernel, rfl⟩
theorem dL_arePapersSo_17 : Dc cL_arePapersSo 17 (.iload_n 1) 1 18 := ⟨by decide +kernel, rfl⟩
theorem dL_arePapersSo_18 : Dc cL_arePapersSo 18 (.bipush 7) 2 20 := ⟨by decide +kernel, rfl⟩
theorem dL_arePapersSo_20 : Dc cL_arePapersSo 20 (.invokevirtual 61) 3 23 := ⟨by decide +kernel, rfl⟩
theorem dL_arePapersSo_23 : Dc cL_arePapersSo 23 (.istore 5) 2 25 := ⟨by decide +kernel, rfl⟩
theorem dL_arePapersSo_25 : Dc cL_arePapersSo 25 (.aload_n 0) 1 26 := ⟨by decide +kernel, rfl⟩
theorem dL_arePapersSo_26 : Dc cL_arePapersSo 26 (.iload_n 1) 1 27 := ⟨by decide +kernel, rfl⟩
theorem dL_arePapersSo_27 : Dc cL_arePapersSo 27 (.invokevirtual 80) 3 30 := ⟨by decide +kernel, rfl⟩
theorem dL_arePapersSo_30 : Dc cL_arePapersSo 30 (.istore 6) 2 32 := ⟨by decide +kernel, rfl⟩
theorem dL_arePapersSo_32 : Dc cL_arePapersSo 32 (.aload_n 0) 1 33 := ⟨by decide +kernel, rfl⟩
theorem dL_arePapersSo_33 : Dc cL_arePapersSo 33 (.iconst 4) 1 34 := ⟨by decide +kernel, rfl⟩
theorem dL_arePapersSo_34 : Dc cL_arePapersSo 34 (.invokevirtual 48) 3 37 := ⟨by decide +kernel, rfl⟩
theorem dL_arePapersSo_37 : Dc cL_arePapersSo 37 (.istore 7) 2 39 := ⟨by decide +kernel, rfl⟩
theorem dL_arePapersSo_39 : Dc cL_arePapersSo 39 (.iload_n 3) 1 40 := ⟨by decide +kernel, rfl⟩
theorem dL_arePapersSo_40 : Dc cL_arePapersSo 40 (.iload 7) 2 42 := ⟨by decide +kernel, rfl⟩
theorem dL_arePapersSo_42 : Dj cL_arePapersSo 42 (.if_icmp .gt 109) 3 45 (109) 151 := ⟨by decide +kernel, rfl, by decide⟩
theorem dL_arePapersSo_45 : Dc cL_arePapersSo 45 (.iload_n 3) 1 46 := ⟨by decide +kernel, rfl⟩
theorem dL_arePapersSo_46 : Dc cL_arePapersSo 46 (.iconst (-1)) 1 47 := ⟨by decide +kernel, rfl⟩
theorem dL_arePapersSo_47 : Dj cL_arePapersSo 47 (.if_icmp .eq 7) 3 50 (7) 54 := ⟨by decide +kernel, rfl, by decide⟩
theorem dL_arePapersSo_50 : Dc cL_arePapersSo 50 (.iload_n 3) 1 51 := ⟨by decide +kernel, rfl⟩
theorem dL_arePapersSo_51 : Dj cL_arePapersSo 51 (.ifCond .le 100) 3 54 (100) 151 := ⟨by decide +kernel, rfl, by decide⟩
theorem dL_arePapersSo_54 : Dc cL_arePapersSo 54 (.iload 4) 2 56 := ⟨by decide +kernel, rfl⟩
theorem dL_arePapersSo_56 : Dj cL_arePapersSo 56 (.ifCond .eq 7) 3 59 (7) 63 := ⟨by decide +kernel, rfl, by decide⟩
theorem dL_arePapersSo_59 : Dc cL_arePapersSo 59 (.iload_n 3) 1 60 := ⟨by decide +kernel, rfl⟩
theorem dL_arePapersSo_60 : Dj cL_arePapersSo 60 (.ifCond .le 91) 3 63 (91) 151 := ⟨by decide +kernel, rfl, by decide⟩
theorem dL_arePapersSo_63 : Dc cL_arePapersSo 63 (.iload 5) 2 65 := ⟨by decide +kernel, rfl⟩
theorem dL_arePapersSo_65 : Dj cL_arePapersSo 65 (.ifCond .eq 16) 3 68 (16) 81 := ⟨by decide +kernel, rfl, by decide⟩
theorem dL_arePapersSo_68 : Dc cL_arePapersSo 68 (.iload 5) 2 70 := ⟨by decide +kernel, rfl⟩
theorem dL_arePapersSo_70 : Dc cL_arePapersSo 70 (.iconst 2) 1 71 := ⟨by decide +kernel, rfl⟩
theorem dL_arePapersSo_71 : Dj cL_arePapersSo 71 (.if_icmp .le 80) 3 74 (80) 151 := ⟨by decide +kernel, rfl, by decide⟩
theorem dL_arePapersSo_74 : Dc cL_arePapersSo 74 (.iload 5) 2 76 := ⟨by decide +kernel, rfl⟩
theorem dL_arePapersSo_76 : Dc cL_arePapersSo 76 (.bipush 7) 2 78 := ⟨by decide +kernel, rfl⟩
theorem dL_arePapersSo_78 : Dj cL_arePapersSo 78 (.if_icmp .ge 73) 3 81 (73) 151 := ⟨by decide +kernel, rfl, by decide⟩
theorem dL_arePapersSo_81 : Dc cL_arePapersSo 81 (.iload 5) 2 83 := ⟨by decide +kernel, rfl⟩
theorem dL_arePapersSo_83 : Dc cL_arePapersSo 83 (.iconst 5) 1 84 := ⟨by decide +kernel, rfl⟩
theorem dL_arePapersSo_84 : Dj cL_arePapersSo 84 (.if_icmp .ne 9) 3 87 (9) 93 := ⟨by decide +kernel, rfl, by decide⟩
theorem dL_arePapersSo_87 : Dc cL_arePapersSo 87 (.iload 4) 2 89 := ⟨by decide +kernel, rfl⟩
theorem dL_arePapersSo_89 : Dc cL_arePapersSo 89 (.iconst 1) 1 90 := ⟨by decide +kernel, rfl⟩
theorem dL_arePapersSo_90 : Dj cL_arePapersSo 90 (.if_icmp .ne 61) 3 93 (61) 151 := ⟨by decide +kernel, rfl, by decide⟩
theorem dL_arePapersSo_93 : Dc cL_arePapersSo 93 (.iload 4) 2 95 := ⟨by decide +kernel, rfl⟩
theorem dL_arePapersSo_95 : Dj cL_arePapersSo 95 (.ifCond .eq 8) 3 98 (8) 103 := ⟨by decide +kernel, rfl, by decide⟩
theorem dL_arePapersSo_98 : Dc cL_arePapersSo 98 (.iload 5) 2 100 := ⟨by decide +kernel, rfl⟩
theorem dL_arePapersSo_100 : Dj cL_arePapersSo 100 (.ifCond .le 51) 3 103 (51) 151 := ⟨by decide +kernel, rfl, by decide⟩
theorem dL_arePapersSo_103 : Dc cL_arePapersSo 103 (.iload_n 3) 1 104 := ⟨by decide +kernel, rfl⟩
theorem dL_arePapersSo_104 : Dj cL_arePapersSo 104 (.ifCond .gt 9) 3 107 (9) 113 := ⟨by decide +kernel, rfl, by decide⟩
theorem dL_arePapersSo_107 : Dc cL_arePapersSo 107 (.iload 6) 2 109 := ⟨by decide +kernel, rfl⟩
theorem dL_arePapersSo_109 : Dc cL_arePapersSo 109 (.iconst (-1)) 1 110 := ⟨by decide +kernel, rfl⟩
theorem dL_arePapersSo_110 : Dj cL_arePapersSo 110 (.if_icmp .ne 41) 3 113 (41) 151 := ⟨by decide +kernel, rfl, by decide⟩
theorem dL_arePapersSo_113 : Dc cL_arePapersSo 113 (.iload_n 3) 1 114 := ⟨by decide +kernel, rfl⟩
theorem dL_arePapersSo_114 : Dj cL_arePapersSo 114 (.ifCond .lt 26) 3 117 (26) 140 := ⟨by decide +kernel, rfl, by decide⟩
theorem dL_arePapersSo_117 : Dc cL_arePapersSo 117 (.iload 6) 2 119 := ⟨by decide +kernel, rfl⟩
theorem dL_arePapersSo_119 : Dj cL_arePapersSo 119 (.ifCond .ne 7) 3 122 (7) 126 := ⟨by decide +kernel, rfl, by decide⟩
theorem dL_arePapersSo_122 : Dc cL_arePapersSo 122 (.iconst 1) 1 123 := ⟨by decide +kernel, rfl⟩
theorem dL_arePapersSo_123 : Dj cL_arePapersSo 123 (.goto 4) 3 126 (4) 127 := ⟨by decide +kernel, rfl, by decide⟩
theorem dL_arePapersSo_126 : Dc cL_arePapersSo 126 (.iconst 0) 1 127 := ⟨by decide +kernel, rfl⟩
theorem dL_arePapersSo_127 : Dc cL_arePapersSo 127 (.iload 4) 2 129 := ⟨by decide +kernel, rfl⟩
theorem dL_arePapersSo_129 : Dj cL_arePapersSo 129 (.ifCond .ne 7) 3 132 (7) 136 := ⟨by decide +kernel, rfl, by decide⟩
theorem dL_arePapersSo_132 : Dc cL_arePapersSo 132 (.iconst 1) 1 133 := ⟨by decide +kernel, rfl⟩
theorem dL_arePapersSo_133 : Dj cL_arePapersSo 133 (.goto 4) 3 136 (4) 137 := ⟨by decide +kernel, rfl, by decide⟩
theorem dL_arePapersSo_136 : Dc cL_arePapersSo 136 (.iconst 0) 1 137 := ⟨by decide +kernel, rfl⟩
theorem dL_arePapersSo_137 : Dj cL_arePapersSo 137 (.if_icmp .ne 14) 3 140 (14) 151 := ⟨by decide +kernel, rfl, by decide⟩
theorem dL_arePapersSo_140 : Dc cL_arePapersSo 140 (.iload 6) 2 142 := ⟨by decide +kernel, rfl⟩
theorem dL_arePapersSo_142 : Dc cL_arePapersSo 142 (.bipush 50) 2 144 := ⟨by decide +kernel, rfl⟩
theorem dL_arePapersSo_144 : Dj cL_arePapersSo 144 (.if_icmp .gt 7) 3 147 (7) 151 := ⟨by decide +kernel, rfl, by decide⟩
theorem dL_arePapersSo_147 : Dc cL_arePapersSo 147 (.iconst 1) 1 148 := ⟨by decide +kernel, rfl⟩
theorem dL_arePapersSo_148 : Dj cL_arePapersSo 148 (.goto 4) 3 151 (4) 152 := ⟨by decide +kernel, rfl, by decide⟩
theorem dL_arePapersSo_151 : Dc cL_arePapersSo 151 (.iconst 0) 1 152 := ⟨by decide +kernel, rfl⟩
theorem dL_arePapersSo_152 : Dc cL_arePapersSo 152 (.istore 8) 2 154 := ⟨by decide +kernel, rfl⟩
theorem dL_arePapersSo_154 : Dc cL_arePapersSo 154 (.aload_n 0) 1 155 := ⟨by decide +kernel, rfl⟩
theorem dL_arePapersSo_155 : Dc cL_arePapersSo 155 (.bipush 6) 2 157 := ⟨by decide +kernel, rfl⟩
theorem dL_arePapersSo_157 : Dc cL_arePapersSo 157 (.iload_n 1) 1 158 := ⟨by decide +kernel, rfl⟩
theorem dL_arePapersSo_158 : Dc cL_arePapersSo 158 (.iconst 0) 1 159 := ⟨by decide +kernel, rfl⟩
theorem dL_arePapersSo_159 : Dc cL_arePapersSo 159 (.aload_n 2) 1 160 := ⟨by decide +kernel, rfl⟩
theorem dL_arePapersSo_160 : Dc cL_arePapersSo 160 (.invokestatic 55) 3 163 := ⟨by decide +kernel, rfl⟩
theorem dL_arePapersSo_163 : Dc cL_arePapersSo 163 (.istore 9) 2 165 := ⟨by decide +kernel, rfl⟩
theorem dL_arePapersSo_165 : Dc cL_arePapersSo 165 (.iload 8) 2 167 := ⟨by decide +kernel, rfl⟩
theorem dL_arePapersSo_167 : Dj cL_arePapersSo 167 (.ifCond .eq 108) 3 170 (108) 275 := ⟨by decide +kernel, rfl, by decide⟩
theorem dL_arePapersSo_170 : Dc cL_arePapersSo 170 (.iload 9) 2 172 := ⟨by decide +kernel, rfl⟩
theorem dL_arePapersSo_172 : Dj cL_arePapersSo 172 (.ifCond .ne 7) 3 175 (7) 179 := ⟨by decide +kernel, rfl, by decide⟩
theorem dL_arePapersSo_175 : Dc cL_arePapersSo 175 (.iconst 1) 1 176 := ⟨by decide +kernel, rfl⟩
theorem dL_arePapersSo_176 : Dj cL_arePapersSo 176 (.goto 4) 3 179 (4) 180 := ⟨by decide +kernel, rfl, by decide⟩
theorem dL_arePapersSo_179 : Dc cL_arePapersSo 179 (.iconst 0) 1 180 := ⟨by decide +kernel, rfl⟩
theorem dL_arePapersSo_180 : Dc cL_arePapersSo 180 (.iload 5) 2 182 := ⟨by decide +kernel, rfl⟩
theorem dL_arePapersSo_182 : Dj cL_arePapersSo 182 (.ifCond .ne 7) 3 185 (7) 189 := ⟨by decide +kernel, rfl, by decide⟩
theorem dL_arePapersSo_185 : Dc cL_arePapersSo 185 (.iconst 1) 1 186 := ⟨by decide +kernel, rfl⟩
theorem dL_arePapersSo_186 : Dj cL_arePapersSo 186 (.goto 4) 3 189 (4) 190 := ⟨by decide +kernel, rfl, by decide⟩
theorem dL_arePapersSo_189 : Dc cL_arePapersSo 189 (.iconst 0) 1 190 := ⟨by decide +kernel, rfl⟩
theorem dL_arePapersSo_190 : Dj cL_arePapersSo 190 (.if_icmp .ne 85) 3 193 (85) 275 := ⟨by decide +kernel, rfl, by decide⟩
theorem dL_arePapersSo_193 : Dc cL_arePapersSo 193 (.iload 9) 2 195 := ⟨by decide +kernel, rfl⟩
theorem dL_arePapersSo_195 : Dj cL_arePapersSo 195 (.ifCond .ne 55) 3 198 (55) 250 := ⟨by decide +kernel, rfl, by decide⟩
theorem dL_arePapersSo_198 : Dc cL_arePapersSo 198 (.aload_n 2) 1 199 := ⟨by decide +kernel, rfl⟩
theorem dL_arePapersSo_199 : Dc cL_arePapersSo 199 (.iconst 0) 1 200 := ⟨by decide +kernel, rfl⟩
theorem dL_arePapersSo_200 : Dc cL_arePapersSo 200 (.iaload) 1 201 := ⟨by decide +kernel, rfl⟩
theorem dL_arePapersSo_201 : Dc cL_arePapersSo 201 (.iload 7) 2 203 := ⟨by decide +kernel, rfl⟩
theorem dL_arePapersSo_203 : Dc cL_arePapersSo 203 (.iconst 1) 1 204 := ⟨by decide +kernel, rfl⟩
theorem dL_arePapersSo_204 : Dc cL_arePapersSo 204 (.iadd) 1 205 := ⟨by decide +kernel, rfl⟩
theorem dL_arePapersSo_205 : Dj cL_arePapersSo 205 (.if_icmp .ne 70) 3 208 (70) 275 := ⟨by decide +kernel, rfl, by decide⟩
theorem dL_arePapersSo_208 : Dc cL_arePapersSo 208 (.aload_n 0) 1 209 := ⟨by decide +kernel, rfl⟩
theorem dL_arePapersSo_209 : Dc cL_arePapersSo 209 (.iload_n 1) 1 210 := ⟨by decide +kernel, rfl⟩
theorem dL_arePapersSo_210 : Dc cL_arePapersSo 210 (.iconst 5) 1 211 := ⟨by decide +kernel, rfl⟩
theorem dL_arePapersSo_211 : Dc cL_arePapersSo 211 (.invokevirtual 61) 3 214 := ⟨by decide +kernel, rfl⟩
theorem dL_arePapersSo_214 : Dc cL_arePapersSo 214 (.iload 7) 2 216 := ⟨by decide +kernel, rfl⟩
theorem dL_arePapersSo_216 : Dc cL_arePapersSo 216 (.iconst 1) 1 217 := ⟨by decide +kernel, rfl⟩
theorem dL_arePapersSo_217 : Dc cL_arePapersSo 217 (.iadd) 1 218 := ⟨by decide +kernel, rfl⟩
theorem dL_arePapersSo_218 : Dj cL_arePapersSo 218 (.if_icmp .ne 57) 3 221 (57) 275 := ⟨by decide +kernel, rfl, by decide⟩
theorem dL_arePapersSo_221 : Dc cL_arePapersSo 221 (.aload_n 0) 1 222 := ⟨by decide +kernel, rfl⟩
theorem dL_arePapersSo_222 : Dc cL_arePapersSo 222 (.iload_n 1) 1 223 := ⟨by decide +kernel, rfl⟩
theorem dL_arePapersSo_223 : Dc cL_arePapersSo 223 (.bipush 6) 2 225 := ⟨by decide +kernel, rfl⟩
theorem dL_arePapersSo_225 : Dc cL_arePapersSo 225 (.invokevirtual 61) 3 228 := ⟨by decide +kernel, rfl⟩
theorem dL_arePapersSo_228 : Dc cL_arePapersSo 228 (.iconst 1) 1 229 := ⟨by decide +kernel, rfl⟩
theorem dL_arePapersSo_229 : Dj cL_arePapersSo 229 (.if_icmp .ne 46) 3 232 (46) 275 := ⟨by decide +kernel, rfl, by decide⟩
theorem dL_arePapersSo_232 : Dc cL_arePapersSo 232 (.aload_n 0) 1 233 := ⟨by decide +kernel, rfl⟩
theorem dL_arePapersSo_233 : Dc cL_arePapersSo 233 (.iload_n 1) 1 234 := ⟨by decide +kernel, rfl⟩
theorem dL_arePapersSo_234 : Dc cL_arePapersSo 234 (.bipush 7) 2 236 := ⟨by decide +kernel, rfl⟩
theorem dL_arePapersSo_236 : Dc cL_arePapersSo 236 (.invokevirtual 61) 3 239 := ⟨by decide +kernel, rfl⟩
theorem dL_arePapersSo_239 : Dc cL_arePapersSo 239 (.iconst 5) 1 240 := ⟨by decide +kernel, rfl⟩
theorem dL_arePapersSo_240 : Dj cL_arePapersSo 240 (.if_icmp .ne 35) 3 243 (35) 275 := ⟨by decide +kernel, rfl, by decide⟩
theorem dL_arePapersSo_243 : Dc cL_arePapersSo 243 (.aload_n 0) 1 244 := ⟨by decide +kernel, rfl⟩
theorem dL_arePapersSo_244 : Dc cL_arePapersSo 244 (.invokevirtual 83) 3 247 := ⟨by decide +kernel, rfl⟩
theorem dL_arePapersSo_247 : Dj cL_arePapersSo 247 (.ifCond .lt 28) 3 250 (28) 275 := ⟨by decide +kernel, rfl, by decide⟩
theorem dL_arePapersSo_250 : Dc cL_arePapersSo 250 (.iload 9) 2 252 := ⟨by decide +kernel, rfl⟩
theorem dL_arePapersSo_252 : Dj cL_arePapersSo 252 (.ifCond .eq 9) 3 255 (9) 261 := ⟨by decide +kernel, rfl, by decide⟩
theorem dL_arePapersSo_255 : Dc cL_arePapersSo 255 (.iload 9) 2 257 := ⟨by decide +kernel, rfl⟩
theorem dL_arePapersSo_257 : Dc cL_arePapersSo 257 (.iconst 3) 1 258 := ⟨by decide +kernel, rfl⟩
theorem dL_arePapersSo_258 : Dj cL_arePapersSo 258 (.if_icmp .ne 17) 3 261 (17) 275 := ⟨by decide +kernel, rfl, by decide⟩
theorem dL_arePapersSo_261 : Dc cL_arePapersSo 261 (.aload_n 0) 1 262 := ⟨by decide +kernel, rfl⟩
theorem dL_arePapersSo_262 : Dc cL_arePapersSo 262 (.iconst 4) 1 263 := ⟨by decide +kernel, rfl⟩
theorem dL_arePapersSo_263 : Dc cL_arePapersSo 263 (.invokevirtual 48) 3 266 := ⟨by decide +kernel, rfl⟩
theorem dL_arePapersSo_266 : Dc cL_arePapersSo 266 (.iload 7) 2 268 := ⟨by decide +kernel, rfl⟩
theorem dL_arePapersSo_268 : Dj cL_arePapersSo 268 (.if_icmp .ne 7) 3 271 (7) 275 := ⟨by decide +kernel, rfl, by decide⟩
theorem dL_arePapersSo_271 : Dc cL_arePapersSo 271 (.iconst 1) 1 272 := ⟨by decide +kernel, rfl⟩
theorem dL_arePapersSo_272 : Dj cL_arePapersSo 272 (.goto 4) 3 275 (4) 276 := ⟨by decide +kernel, rfl, by decide⟩
theorem dL_arePapersSo_275 : Dc cL_arePapersSo 275 (.iconst 0) 1 276 := ⟨by decide +kernel, rfl⟩
theorem dL_arePapersSo_276 : Dc cL_arePapersSo 276 (.istore 8) 2 278 := ⟨by decide +kernel, rfl⟩
theorem dL_arePapersSo_278 : Dc cL_arePapersSo 278 (.iload 6) 2 280 := ⟨by decide +kernel, rfl⟩
theorem dL_arePapersSo_280 : Dc cL_arePapersSo 280 (.iconst 1) 1 281 := ⟨by decide +kernel, rfl⟩
theorem dL_arePapersSo_281 : Dj cL_arePapersSo 281 (.if_icmp .le 60) 3 284 (60) 341 := ⟨by decide +kernel, rfl, by decide⟩
theorem dL_arePapersSo_284 : Dc cL_arePapersSo 284 (.iload 6) 2 286 := ⟨by decide +kernel, rfl⟩
theorem dL_arePapersSo_286 : Dc cL_arePapersSo 286 (.bipush 21) 2 288 := ⟨by decide +kernel, rfl⟩
theorem dL_arePapersSo_288 : Dj cL_arePapersSo 288 (.if_icmp .ge 53) 3 291 (53) 341 := ⟨by decide +kernel, rfl, by decide⟩
theorem dL_arePapersSo_291 : Dc cL_arePapersSo 291 (.iload 8) 2 293 := ⟨by decide +kernel, rfl⟩
theorem dL_arePapersSo_293 : Dj cL_arePapersSo 293 (.ifCond .eq 45) 3 296 (45) 338 := ⟨by decide +kernel, rfl, by decide⟩
theorem dL_arePapersSo_296 : Dc cL_arePapersSo 296 (.aload_n 0) 1 297 := ⟨by decide +kernel, rfl⟩
theorem dL_arePapersSo_297 : Dc cL_arePapersSo 297 (.iload 6) 2 299 := ⟨by decide +kernel, rfl⟩
theorem dL_arePapersSo_299 : Dc cL_arePapersSo 299 (.iconst 1) 1 300 := ⟨by decide +kernel, rfl⟩
theorem dL_arePapersSo_300 : Dc cL_arePapersSo 300 (.isub) 1 301 := ⟨by decide +kernel, rfl⟩
theorem dL_arePapersSo_301 : Dc cL_arePapersSo 301 (.invokevirtual 18) 3 304 := ⟨by decide +kernel, rfl⟩
theorem dL_arePapersSo_304 : Dj cL_arePapersSo 304 (.ifCond .le 34) 3 307 (34) 338 := ⟨by decide +kernel, rfl, by decide⟩
theorem dL_arePapersSo_307 : Dc cL_arePapersSo 307 (.aload_n 0) 1 308 := ⟨by decide +kernel, rfl⟩
theorem dL_arePapersSo_308 : Dc cL_arePapersSo 308 (.iload_n 1) 1 309 := ⟨by decide +kernel, rfl⟩
theorem dL_arePapersSo_309 : Dc cL_arePapersSo 309 (.bipush 6) 2 311 := ⟨by decide +kernel, rfl⟩
theorem dL_arePapersSo_311 : Dc cL_arePapersSo 311 (.invokevirtual 61) 3 314 := ⟨by decide +kernel, rfl⟩
theorem dL_arePapersSo_314 : Dc cL_arePapersSo 314 (.iconst 1) 1 315 := ⟨by decide +kernel, rfl⟩
theorem dL_arePapersSo_315 : Dj cL_arePapersSo 315 (.if_icmp .ne 23) 3 318 (23) 338 := ⟨by decide +kernel, rfl, by decide⟩
theorem dL_arePapersSo_318 : Dc cL_arePapersSo 318 (.aload_n 0) 1 319 := ⟨by decide +kernel, rfl⟩
theorem dL_arePapersSo_319 : Dc cL_arePapersSo 319 (.iload_n 1) 1 320 := ⟨by decide +kernel, rfl⟩
theorem dL_arePapersSo_320 : Dc cL_arePapersSo 320 (.invokevirtual 80) 3 323 := ⟨by decide +kernel, rfl⟩
theorem dL_arePapersSo_323 : Dc cL_arePapersSo 323 (.iconst 1) 1 324 := ⟨by decide +kernel, rfl⟩
theorem dL_arePapersSo_324 : Dj cL_arePapersSo 324 (.if_icmp .ne 14) 3 327 (14) 338 := ⟨by decide +kernel, rfl, by decide⟩
theorem dL_arePapersSo_327 : Dc cL_arePapersSo 327 (.aload_n 0) 1 328 := ⟨by decide +kernel, rfl⟩
theorem dL_arePapersSo_328 : Dc cL_arePapersSo 328 (.invokevirtual 83) 3 331 := ⟨by decide +kernel, rfl⟩
theorem dL_arePapersSo_331 : Dj cL_arePapersSo 331 (.ifCond .lt 7) 3 334 (7) 338 := ⟨by decide +kernel, rfl, by decide⟩
theorem dL_arePapersSo_334 : Dc cL_arePapersSo 334 (.iconst 1) 1 335 := ⟨by decide +kernel, rfl⟩
theorem dL_arePapersSo_335 : Dj cL_arePapersSo 335 (.goto 4) 3 338 (4) 339 := ⟨by decide +kernel, rfl, by decide⟩
theorem dL_arePapersSo_338 : Dc cL_arePapersSo 338 (.iconst 0) 1 339 := ⟨by decide +kernel, rfl⟩
theorem dL_arePapersSo_339 : Dc cL_arePapersSo 339 (.istore 8) 2 341 := ⟨by decide +kernel, rfl⟩
theorem dL_arePapersSo_341 : Dc cL_arePapersSo 341 (.iload 6) 2 343 := ⟨by decide +kernel, rfl⟩
theorem dL_arePapersSo_343 : Dj cL_arePapersSo 343 (.ifCond .le 56) 3 346 (56) 399 := ⟨by decide +kernel, rfl, by decide⟩
theorem dL_arePapersSo_346 : Dc cL_arePapersSo 346 (.iload 6) 2 348 := ⟨by decide +kernel, rfl⟩
theorem dL_arePapersSo_348 : Dc cL_arePapersSo 348 (.bipush 21) 2 350 := ⟨by decide +kernel, rfl⟩
theorem dL_arePapersSo_350 : Dj cL_arePapersSo 350 (.if_icmp .ge 49) 3 353 (49) 399 := ⟨by decide +kernel, rfl, by decide⟩
theorem dL_arePapersSo_353 : Dc cL_arePapersSo 353 (.iload 8) 2 355 := ⟨by decide +kernel, rfl⟩
theorem dL_arePapersSo_355 : Dj cL_arePapersSo 355 (.ifCond .eq 41) 3 358 (41) 396 := ⟨by decide +kernel, rfl, by decide⟩
theorem dL_arePapersSo_358 : Dc cL_arePapersSo 358 (.aload_n 0) 1 359 := ⟨by decide +kernel, rfl⟩
theorem dL_arePapersSo_359 : Dc cL_arePapersSo 359 (.iload 6) 2 361 := ⟨by decide +kernel, rfl⟩
theorem dL_arePapersSo_361 : Dc cL_arePapersSo 361 (.invokevirtual 18) 3 364 := ⟨by decide +kernel, rfl⟩
theorem dL_arePapersSo_364 : Dj cL_arePapersSo 364 (.ifCond .le 32) 3 367 (32) 396 := ⟨by decide +kernel, rfl, by decide⟩
theorem dL_arePapersSo_367 : Dc cL_arePapersSo 367 (.aload_n 0) 1 368 := ⟨by decide +kernel, rfl⟩
theorem dL_arePapersSo_368 : Dc cL_arePapersSo 368 (.iload_n 1) 1 369 := ⟨by decide +kernel, rfl⟩
theorem dL_arePapersSo_369 : Dc cL_arePapersSo 369 (.bipush 6) 2 371 := ⟨by decide +kernel, rfl⟩
theorem dL_arePapersSo_371 : Dc cL_arePapersSo 371 (.invokevirtual 61) 3 374 := ⟨by decide +kernel, rfl⟩
theorem dL_arePapersSo_374 : Dj cL_arePapersSo 374 (.ifCond .ne 22) 3 377 (22) 396 := ⟨by decide +kernel, rfl, by decide⟩
theorem dL_arePapersSo_377 : Dc cL_arePapersSo 377 (.aload_n 0) 1 378 := ⟨by decide +kernel, rfl⟩
theorem dL_arePapersSo_378 : Dc cL_arePapersSo 378 (.iload_n 1) 1 379 := ⟨by decide +kernel, rfl⟩
theorem dL_arePapersSo_379 : Dc cL_arePapersSo 379 (.invokevirtual 80) 3 382 := ⟨by decide +kernel, rfl⟩
theorem dL_arePapersSo_382 : Dj cL_arePapersSo 382 (.ifCond .ne 14) 3 385 (14) 396 := ⟨by decide +kernel, rfl, by decide⟩
theorem dL_arePapersSo_385 : Dc cL_arePapersSo 385 (.aload_n 0) 1 386 := ⟨by decide +kernel, rfl⟩
theorem dL_arePapersSo_386 : Dc cL_arePapersSo 386 (.invokevirtual 83) 3 389 := ⟨by decide +kernel, rfl⟩
theorem dL_arePapersSo_389 : Dj cL_arePapersSo 389 (.ifCond .lt 7) 3 392 (7) 396 := ⟨by decide +kernel, rfl, by decide⟩
theorem dL_arePapersSo_392 : Dc cL_arePapersSo 392 (.iconst 1) 1 393 := ⟨by decide +kernel, rfl⟩
theorem dL_arePapersSo_393 : Dj cL_arePapersSo 393 (.goto 4) 3 396 (4) 397 := ⟨by decide +kernel, rfl, by decide⟩
theorem dL_arePapersSo_396 : Dc cL_arePapersSo 396 (.iconst 0) 1 397 := ⟨by decide +kernel, rfl⟩
theorem dL_arePapersSo_397 : Dc cL_arePapersSo 397 (.istore 8) 2 399 := ⟨by decide +kernel, rfl⟩
theorem dL_arePapersSo_399 : Dc cL_arePapersSo 399 (.iload 8) 2 401 := ⟨by decide +kernel, rfl⟩
theorem dL_arePapersSo_401 : Dj cL_arePapersSo 401 (.ifCond .eq 29) 3 404 (29) 430 := ⟨by decide +kernel, rfl, by decide⟩
theorem dL_arePapersSo_404 : Dc cL_arePapersSo 404 (.aload_n 0) 1 405 := ⟨by decide +kernel, rfl⟩
theorem dL_arePapersSo_405 : Dc cL_arePapersSo 405 (.iload_n 1) 1 406 := ⟨by decide +kernel, rfl⟩
theorem dL_arePapersSo_406 : Dc cL_arePapersSo 406 (.bipush 6) 2 408 := ⟨by decide +kernel, rfl⟩
theorem dL_arePapersSo_408 : Dc cL_arePapersSo 408 (.invokevirtual 61) 3 411 := ⟨by decide +kernel, rfl⟩
theorem dL_arePapersSo_411 : Dc cL_arePapersSo 411 (.iload 4) 2 413 := ⟨by decide +kernel, rfl⟩
theorem dL_arePapersSo_413 : Dj cL_arePapersSo 413 (.if_icmp .ne 17) 3 416 (17) 430 := ⟨by decide +kernel, rfl, by decide⟩
theorem dL_arePapersSo_416 : Dc cL_arePapersSo 416 (.aload_n 0) 1 417 := ⟨by decide +kernel, rfl⟩
theorem dL_arePapersSo_417 : Dc cL_arePapersSo 417 (.iload_n 1) 1 418 := ⟨by decide +kernel, rfl⟩
theorem dL_arePapersSo_418 : Dc cL_arePapersSo 418 (.invokevirtual 80) 3 421 := ⟨by decide +kernel, rfl⟩
theorem dL_arePapersSo_421 : Dc cL_arePapersSo 421 (.iload 6) 2 423 := ⟨by decide +kernel, rfl⟩
theorem dL_arePapersSo_423 : Dj cL_arePapersSo 423 (.if_icmp .ne 7) 3 426 (7) 430 := ⟨by decide +kernel, rfl, by decide⟩
theorem dL_arePapersSo_426 : Dc cL_arePapersSo 426 (.iconst 1) 1 427 := ⟨by decide +kernel, rfl⟩
theorem dL_arePapersSo_427 : Dj cL_arePapersSo 427 (.goto 4) 3 430 (4) 431 := ⟨by decide +kernel, rfl, by decide⟩
theorem dL_arePapersSo_430 : Dc cL_arePapersSo 430 (.iconst 0) 1 431 := ⟨by decide +kernel, rfl⟩
theorem dL_arePapersSo_431 : Dc cL_arePapersSo 431 (.ireturn) 1 432 := ⟨by decide +kernel, rfl⟩
def F_L_arePapersSo (o : OM) (v1 : Int32) : Option (Int32 × OM) := b0 (F_X5_thermometer o v1 ((5 : Int32))) (fun r_1 o_2 => b0 (F_X5_thermometer o_2 v1 ((6 : Int32))) (fun r_3 o_4 => b0 (F_X5_thermometer o_4 v1 ((7 : Int32))) (fun r_5 o_6 => b0 (F_X5_voidIn o_6 v1) (fun r_7 o_8 => b0 (F_X5_count o_8 ((4 : Int32))) (fun r_9 o_10 => bd (fun (s_11 : Int32) => bn (F_L_changes o_10 ((6 : Int32)) v1 ((0 : Int32))) (fun r_12 o_13 => bd (fun (o_15 : OM) (s_14 : Int32) => bd (fun (o_17 : OM) (v8_16 : Int32) => bd (fun (o_19 : OM) (v8_18 : Int32) => bd (fun (o_21 : OM) (s_20 : Int32) => grd (isZ s_20) (some (s_20, o_21))) (fun k431 => bd (fun (o_22 : OM) => k431 o_22 ((0 : Int32))) (fun k430 => if v8_18 = 0 then (k430 o_19) else (b0 (F_X5_thermometer o_19 v1 ((6 : Int32))) (fun r_23 o_24 => if r_23 = r_3 then (b0 (F_X5_voidIn o_24 v1) (fun r_25 o_26 => if r_25 = r_7 then (k431 o_26 ((1 : Int32))) else (k430 o_26))) else (k430 o_24)))))) (fun k399 => if r_7 ≤ 0 then (k399 o_17 v8_16) else (if ((21 : Int32)) ≤ r_7 then (k399 o_17 v8_16) else (bd (fun (o_28 : OM) (s_27 : Int32) => k399 o_28 s_27) (fun k397 => bd (fun (o_29 : OM) => k397 o_29 ((0 : Int32))) (fun k396 => if v8_16 = 0 then (k396 o_17) else (b0 (F_X5_pass o_17 r_7) (fun r_30 o_31 => if r_30 ≤ 0 then (k396 o_31) else (b0 (F_X5_thermometer o_31 v1 ((6 : Int32))) (fun r_32 o_33 => if r_32 = 0 then (b0 (F_X5_voidIn o_33 v1) (fun r_34 o_35 => if r_34 = 0 then (b0 (F_X5_undo o_35) (fun r_36 o_37 => if r_36 < 0 then (k396 o_37) else (k397 o_37 ((1 : Int32))))) else (k396 o_35))) else (k396 o_33))))))))))) (fun k341 => if r_7 ≤ ((1 : Int32)) then (k341 o_15 s_14) else (if ((21 : Int32)) ≤ r_7 then (k341 o_15 s_14) else (bd (fun (o_39 : OM) (s_38 : Int32) => k341 o_39 s_38) (fun k339 => bd (fun (o_40 : OM) => k339 o_40 ((0 : Int32))) (fun k338 => if s_14 = 0 then (k338 o_15) else (b0 (F_X5_pass o_15 (r_7 - ((1 : Int32)))) (fun r_41 o_42 => if r_41 ≤ 0 then (k338 o_42) else (b0 (F_X5_thermometer o_42 v1 ((6 : Int32))) (fun r_43 o_44 => if r_43 = ((1 : Int32)) then (b0 (F_X5_voidIn o_44 v1) (fun r_45 o_46 => if r_45 = ((1 : Int32)) then (b0 (F_X5_undo o_46) (fun r_47 o_48 => if r_47 < 0 then (k338 o_48) else (k339 o_48 ((1 : Int32))))) else (k338 o_46))) else (k338 o_44))))))))))) (fun k276 => bd (fun (o_49 : OM) => k276 o_49 ((0 : Int32))) (fun k275 => if s_11 = 0 then (k275 o_13) else (bd (fun (s_50 : Int32) => bd (fun (s_51 : Int32) => if s_50 = s_51 then (bd (fun (o_52 : OM) => bd (fun (_ : Unit) => b0 (F_X5_count o_52 ((4 : Int32))) (fun r_53 o_54 => if r_53 = r_9 then (k276 o_54 ((1 : Int32))) else (k275 o_54))) (fun k261 => if r_12 = 0 then (k261 ()) else (if r_12 = ((3 : Int32)) then (k261 ()) else (k275 o_52)))) (fun k250 => if r_12 = 0 then (grd (inB ((0 : Int32)) 1) (if (rd o_13 24 0 ((0 : Int32)).toNatClampNeg) = (r_9 + ((1 : Int32))) then (b0 (F_X5_thermometer o_13 v1 ((5 : Int32))) (fun r_55 o_56 => if r_55 = (r_9 + ((1 : Int32))) then (b0 (F_X5_thermometer o_56 v1 ((6 : Int32))) (fun r_57 o_58 => if r_57 = ((1 : Int32)) then (b0 (F_X5_thermometer o_58 v1 ((7 : Int32))) (fun r_59 o_60 => if r_59 = ((5 : Int32)) then (b0 (F_X5_undo o_60) (fun r_61 o_62 => if r_61 < 0 then (k275 o_62) else (k250 o_62))) else (k275 o_60))) else (k275 o_58))) else (k275 o_56))) else (k275 o_13))) else (k250 o_13))) else (k275 o_13)) (fun k190 => if r_5 = 0 then (k190 ((1 : Int32))) else (k190 ((0 : Int32))))) (fun k180 => if r_12 = 0 then (k180 ((1 : Int32))) else (k180 ((0 : Int32))))))))) (fun k152 => bd (fun (_ : Unit) => k152 ((0 : Int32))) (fun k151 => if r_9 < r_1 then (k151 ()) else (bd (fun (_ : Unit) => bd (fun (_ : Unit) => bd (fun (_ : Unit) => bd (fun (_ : Unit) => bd (fun (_ : Unit) => bd (fun (_ : Unit) => bd (fun (_ : Unit) => if ((50 : Int32)) < r_7 then (k151 ()) else (k152 ((1 : Int32)))) (fun k140 => if r_1 < 0 then (k140 ()) else (bd (fun (s_63 : Int32) => bd (fun (s_64 : Int32) => if s_63 = s_64 then (k140 ()) else (k151 ())) (fun k137 => if r_3 = 0 then (k137 ((1 : Int32))) else (k137 ((0 : Int32))))) (fun k127 => if r_7 = 0 then (k127 ((1 : Int32))) else (k127 ((0 : Int32))))))) (fun k113 => if 0 < r_1 then (k113 ()) else (if r_7 = ((-1 : Int32)) then (k113 ()) else (k151 ())))) (fun k103 => if r_3 = 0 then (k103 ()) else (if r_5 ≤ 0 then (k151 ()) else (k103 ())))) (fun k93 => if r_5 = ((5 : Int32)) then (if r_3 = ((1 : Int32)) then (k93 ()) else (k151 ())) else (k93 ()))) (fun k81 => if r_5 = 0 then (k81 ()) else (if r_5 ≤ ((2 : Int32)) then (k151 ()) else (if ((7 : Int32)) ≤ r_5 then (k151 ()) else (k81 ()))))) (fun k63 => if r_3 = 0 then (k63 ()) else (if r_1 ≤ 0 then (k151 ()) else (k63 ())))) (fun k54 => if r_1 = ((-1 : Int32)) then (k54 ()) else (if r_1 ≤ 0 then (k151 ()) else (k54 ())))))))))))
abbrev rmL_arePapersSo : Room := { frames := 9, cells := 1, slots := 6, locals := 174 }
set_option maxHeartbeats 4000000 in
set_option maxRecDepth 100000 in
theorem wL_arePapersSo {G : Gd} {p : Program} {l : Launch} {e : Env} {s : State} {m : MethodId} {args : Array Value} {below : List Frame} {meth : Method} {c : Code} {o : OM} {H : Heap} {L0 : List Loc} {ls : Array Slot} {r : Int32} {o9 : OM} {v1 : Int32} (C : Cx G RL cL_arePapersSo 10 (some .boolean) p s m args meth c) (X : XW G s) (hl9 : l.stackTraces = false)  (P : Hp G o s H L0) (hl : lv_has ls 10 [(0, .ref (rA G 0 0)), (1, .int v1), (2, .ref (rA G 24 0))]) (hf : F_L_arePapersSo o v1 = some (r, o9)) : W p l e rmL_arePapersSo s m args below meth c H L0 0 0 (Qm G (some (.int r)) o9 rmL_arePapersSo below args s) (F0 m 0 ls []) := by
  unfold F_L_arePapersSo at hf
  refine r_aload_n C hl 0 rfl rfl dL_arePapersSo_0 ?_
  refine r_iload_n C hl 1 rfl rfl dL_arePapersSo_1 ?_
  refine r_iconst C (v := 5) (by decide) dL_arePapersSo_2 ?_
  refine m_cVi C X P cf_L_61 (rm := rmX5_thermometer) rfl [.int v1, .int ((5 : Int32))] [] hf (fun _ _ h => ctX5_thermometer l G hl9 o v1 ((5 : Int32)) h) ⟨Nat.le_of_ble_eq_true rfl, Nat.le_of_ble_eq_true rfl⟩ ⟨Nat.le_of_ble_eq_true rfl, Nat.le_of_ble_eq_true rfl⟩ rfl rfl hl.1 (Nat.le_of_ble_eq_true rfl) dL_arePapersSo_3 (fun r_1 o_2 H1 L1 P hf => ?_)
  refine r_istore_n C [(3, .int r_1), (0, .ref (rA G 0 0)), (1, .int v1), (2, .ref (rA G 24 0))] hl (by decide) rfl rfl dL_arePapersSo_6 (fun ls hl => ?_)
  refine r_aload_n C hl 1 rfl rfl dL_arePapersSo_7 ?_
  refine r_iload_n C hl 2 rfl rfl dL_arePapersSo_8 ?_
  refine r_bipush C (v := 6) (by decide) dL_arePapersSo_9 ?_
  refine m_cVi C X P cf_L_61 (rm := rmX5_thermometer) rfl [.int v1, .int ((6 : Int32))] [] hf (fun _ _ h => ctX5_thermometer l G hl9 o_2 v1 ((6 : Int32)) h) ⟨Nat.le_of_ble_eq_true rfl, Nat.le_of_ble_eq_true rfl⟩ ⟨Nat.le_of_ble_eq_true rfl, Nat.le_of_ble_eq_true rfl⟩ rfl rfl hl.1 (Nat.le_of_ble_eq_true rfl) dL_arePapersSo_11 (fun r_3 o_4 H1 L1 P hf => ?_)
  refine r_istore C [(4, .int r_3), (3, .int r_1), (0, .ref (rA G 0 0)), (1, .int v1), (2, .ref (rA G 24 0))] hl (by decide) rfl dL_arePapersSo_14 (fun ls hl => ?_)
  refine r_aload_n C hl 2 rfl rfl dL_arePapersSo_16 ?_
  refine r_iload_n C hl 3 rfl rfl dL_arePapersSo_17 ?_
  refine r_bipush C (v := 7) (by decide) dL_arePapersSo_18 ?_
  refine m_cVi C X P cf_L_61 (rm := rmX5_thermometer) rfl [.int v1, .int ((7 : Int32))] [] hf (fun _ _ h => ctX5_thermometer l G hl9 o_4 v1 ((7 : Int32)) h) ⟨Nat.le_of_ble_eq_true rfl, Nat.le_of_ble_eq_true rfl⟩ ⟨Nat.le_of_ble_eq_true rfl, Nat.le_of_ble_eq_true rfl⟩ rfl rfl hl.1 (Nat.le_of_ble_eq_true rfl) dL_arePapersSo_20 (fun r_5 o_6 H1 L1 P hf => ?_)
  refine r_istore C [(5, .int r_5), (4, .int r_3), (3, .int r_1), (0, .ref (rA G 0 0)), (1, .int v1), (2, .ref (rA G 24 0))] hl (by decide) rfl dL_arePapersSo_23 (fun ls hl => ?_)
  refine r_aload_n C hl 3 rfl rfl dL_arePapersSo_25 ?_
  refine r_iload_n C hl 4 rfl rfl dL_arePapersSo_26 ?_
  refine m_cVi C X P cf_L_80 (rm := rmX5_voidIn) rfl [.int v1] [] hf (fun _ _ h => ctX5_voidIn l G hl9 o_6 v1 h) ⟨Nat.le_of_ble_eq_true rfl, Nat.le_of_ble_eq_true rfl⟩ ⟨Nat.le_of_ble_eq_true rfl, Nat.le_of_ble_eq_true rfl⟩ rfl rfl hl.1 (Nat.le_of_ble_eq_true rfl) dL_arePapersSo_27 (fun r_7 o_8 H1 L1 P hf => ?_)
  refine r_istore C [(6, .int r_7), (5, .int r_5), (4, .int r_3), (3, .int r_1), (0, .ref (rA G 0 0)), (1, .int v1), (2, .ref (rA G 24 0))] hl (by decide) rfl dL_arePapersSo_30 (fun ls hl => ?_)
  refine r_aload_n C hl 4 rfl rfl dL_arePapersSo_32 ?_
  refine r_iconst C (v := 4) (by decide) dL_arePapersSo_33 ?_
  refine m_cVi C X P cf_L_48 (rm := rmX5_count) rfl [.int ((4 : Int32))] [] hf (fun _ _ h => ctX5_count l G hl9 o_8 ((4 : Int32)) h) ⟨Nat.le_of_ble_eq_true rfl, Nat.le_of_ble_eq_true rfl⟩ ⟨Nat.le_of_ble_eq_true rfl, Nat.le_of_ble_eq_true rfl⟩ rfl rfl hl.1 (Nat.le_of_ble_eq_true rfl) dL_arePapersSo_34 (fun r_9 o_10 H1 L1 P hf => ?_)
  refine r_istore C [(7, .int r_9), (6, .int r_7), (5, .int r_5), (4, .int r_3), (3, .int r_1), (0, .ref (rA G 0 0)), (1, .int v1), (2, .ref (rA G 24 0))] hl (by decide) rfl dL_arePapersSo_37 (fun ls hl => ?_)
  refine r_iload_n C hl 4 rfl rfl dL_arePapersSo_39 ?_
  refine r_iload C hl 0 rfl dL_arePapersSo_40 ?_
  refine r_jn (fun k152 : Int32 → Option (Int32 × OM) => ∀ (s_11 : Int32) H1 L1 ls, Hp G o_10 s H1 L1 → lv_has ls 10 [(0, .ref (rA G 0 0)), (1, .int v1), (2, .ref (rA G 24 0)), (4, .int r_3), (5, .int r_5), (6, .int r_7), (7, .int r_9)] → k152 s_11 = some (r, o9) → W p l e rmL_arePapersSo s m args below meth c H1 L1 0 0 (Qm G (some (.int r)) o9 rmL_arePapersSo below args s) (F0 m 152 ls [.int s_11])) hf ?_ (fun k152 j152 hf => ?_)
  · intro s_11 H1 L1 ls  P hl hf
    refine r_istore C [(8, .int s_11), (0, .ref (rA G 0 0)), (1, .int v1), (2, .ref (rA G 24 0)), (4, .int r_3), (5, .int r_5), (6, .int r_7), (7, .int r_9)] hl (by decide) rfl dL_arePapersSo_152 (fun ls hl => ?_)
    refine r_aload_n C hl 1 rfl rfl dL_arePapersSo_154 ?_
    refine r_bipush C (v := 6) (by decide) dL_arePapersSo_155 ?_
    refine r_iload_n C hl 2 rfl rfl dL_arePapersSo_157 ?_
    refine r_iconst C (v := 0) (by decide) dL_arePapersSo_158 ?_
    refine r_aload_n C hl 3 rfl rfl dL_arePapersSo_159 ?_
    refine m_cX C X P cfw_55 (rm := rmL_changes) [.ref (rA G 0 0), .int ((6 : Int32)), .int v1, .int ((0 : Int32)), .ref (rA G 24 0)] [] hf (fun _ _ h => ctL_changes l G hl9 o_10 ((6 : Int32)) v1 ((0 : Int32)) h) ⟨Nat.le_of_ble_eq_true rfl, Nat.le_of_ble_eq_true rfl⟩ ⟨Nat.le_of_ble_eq_true rfl, Nat.le_of_ble_eq_true rfl⟩ rfl rfl hl.1 (Nat.le_of_ble_eq_true rfl) dL_arePapersSo_160 (fun r_12 o_13 H1 L1 P hf => ?_)
    refine r_istore C [(9, .int r_12), (8, .int s_11), (0, .ref (rA G 0 0)), (1, .int v1), (2, .ref (rA G 24 0)), (4, .int r_3), (5, .int r_5), (6, .int r_7), (7, .int r_9)] hl (by decide) rfl dL_arePapersSo_163 (fun ls hl => ?_)
    refine r_iload C hl 1 rfl dL_arePapersSo_165 ?_
    refine r_jn (fun k276 : OM → Int32 → Option (Int32 × OM) => ∀ (o_15 : OM) (s_14 : Int32) H1 L1 ls, Hp G o_15 s H1 L1 → lv_has ls 10 [(0, .ref (rA G 0 0)), (1, .int v1), (4, .int r_3), (6, .int r_7)] → k276 o_15 s_14 = some (r, o9) → W p l e rmL_arePapersSo s m args below meth c H1 L1 1 6 (Qm G (some (.int r)) o9 rmL_arePapersSo below args s) (F0 m 276 ls [.int s_14])) hf ?_ (fun k276 j276 hf => ?_)
    · intro o_15 s_14 H1 L1 ls  P hl hf
      refine r_istore C [(8, .int s_14), (0, .ref (rA G 0 0)), (1, .int v1), (4, .int r_3), (6, .int r_7)] hl (by decide) rfl dL_arePapersSo_276 (fun ls hl => ?_)
      refine r_iload C hl 4 rfl dL_arePapersSo_278 ?_
      refine r_iconst C (v := 1) (by decide) dL_arePapersSo_280 ?_
      refine r_jn (fun k341 : OM → Int32 → Option (Int32 × OM) => ∀ (o_17 : OM) (v8_16 : Int32) H1 L1 ls, Hp G o_17 s H1 L1 → lv_has ls 10 [(0, .ref (rA G 0 0)), (1, .int v1), (4, .int r_3), (6, .int r_7), (8, .int v8_16)] → k341 o_17 v8_16 = some (r, o9) → W p l e rmL_arePapersSo s m args below meth c H1 L1 1 6 (Qm G (some (.int r)) o9 rmL_arePapersSo below args s) (F0 m 341 ls [])) hf ?_ (fun k341 j341 hf => ?_)
      · intro o_17 v8_16 H1 L1 ls  P hl hf
        refine r_iload C hl 3 rfl dL_arePapersSo_341 ?_
        refine r_jn (fun k399 : OM → Int32 → Option (Int32 × OM) => ∀ (o_19 : OM) (v8_18 : Int32) H1 L1 ls, Hp G o_19 s H1 L1 → lv_has ls 10 [(0, .ref (rA G 0 0)), (1, .int v1), (4, .int r_3), (6, .int r_7), (8, .int v8_18)] → k399 o_19 v8_18 = some (r, o9) → W p l e rmL_arePapersSo s m args below meth c H1 L1 1 6 (Qm G (some (.int r)) o9 rmL_arePapersSo below args s) (F0 m 399 ls [])) hf ?_ (fun k399 j399 hf => ?_)
        · intro o_19 v8_18 H1 L1 ls  P hl hf
          refine r_iload C hl 4 rfl dL_arePapersSo_399 ?_
          refine r_jn (fun k431 : OM → Int32 → Option (Int32 × OM) => ∀ (o_21 : OM) (s_20 : Int32) H1 L1 ls, Hp G o_21 s H1 L1 → lv_has ls 10 [] → k431 o_21 s_20 = some (r, o9) → W p l e rmL_arePapersSo s m args below meth c H1 L1 1 6 (Qm G (some (.int r)) o9 rmL_arePapersSo below args s) (F0 m 431 ls [.int s_20])) hf ?_ (fun k431 j431 hf => ?_)
          · intro o_21 s_20 H1 L1 ls  P hl hf
            exact r_zret C P (rm := rmL_arePapersSo) ⟨rfl, rfl⟩ dL_arePapersSo_431 hf
          refine r_jn (fun k430 : OM → Option (Int32 × OM) => ∀ (o_22 : OM) H1 L1 ls, Hp G o_22 s H1 L1 → lv_has ls 10 [] → k430 o_22 = some (r, o9) → W p l e rmL_arePapersSo s m args below meth c H1 L1 1 6 (Qm G (some (.int r)) o9 rmL_arePapersSo below args s) (F0 m 430 ls [])) hf ?_ (fun k430 j430 hf => ?_)
          · intro o_22 H1 L1 ls  P hl hf
            refine r_iconst C (v := 0) (by decide) dL_arePapersSo_430 ?_
            exact j431 o_22 ((0 : Int32)) _ _ _ P (lv_sub hl [] rfl) hf
          refine r_if_eq C dL_arePapersSo_401 hf (fun hf => ?_) (fun hf => ?_)
          · exact j430 o_19 _ _ _ P (lv_sub hl [] rfl) hf
          · refine r_aload_n C hl 0 rfl rfl dL_arePapersSo_404 ?_
            refine r_iload_n C hl 1 rfl rfl dL_arePapersSo_405 ?_
            refine r_bipush C (v := 6) (by decide) dL_arePapersSo_406 ?_
            refine m_cVi C X P cf_L_61 (rm := rmX5_thermometer) rfl [.int v1, .int ((6 : Int32))] [] hf (fun _ _ h => ctX5_thermometer l G hl9 o_19 v1 ((6 : Int32)) h) ⟨Nat.le_of_ble_eq_true rfl, Nat.le_of_ble_eq_true rfl⟩ ⟨Nat.le_of_ble_eq_true rfl, Nat.le_of_ble_eq_true rfl⟩ rfl rfl hl.1 (Nat.le_of_ble_eq_true rfl) dL_arePapersSo_408 (fun r_23 o_24 H1 L1 P hf => ?_)
            refine r_iload C hl 2 rfl dL_arePapersSo_411 ?_
            refine r_icmp_ne C dL_arePapersSo_413 hf (fun hf => ?_) (fun hf => ?_)
            · exact j430 o_24 _ _ _ P (lv_sub hl [] rfl) hf
            · refine r_aload_n C hl 0 rfl rfl dL_arePapersSo_416 ?_
              refine r_iload_n C hl 1 rfl rfl dL_arePapersSo_417 ?_
              refine m_cVi C X P cf_L_80 (rm := rmX5_voidIn) rfl [.int v1] [] hf (fun _ _ h => ctX5_voidIn l G hl9 o_24 v1 h) ⟨Nat.le_of_ble_eq_true rfl, Nat.le_of_ble_eq_true rfl⟩ ⟨Nat.le_of_ble_eq_true rfl, Nat.le_of_ble_eq_true rfl⟩ rfl rfl hl.1 (Nat.le_of_ble_eq_true rfl) dL_arePapersSo_418 (fun r_25 o_26 H1 L1 P hf => ?_)
              refine r_iload C hl 3 rfl dL_arePapersSo_421 ?_
              refine r_icmp_ne C dL_arePapersSo_423 hf (fun hf => ?_) (fun hf => ?_)
              · exact j430 o_26 _ _ _ P (lv_sub hl [] rfl) hf
              · refine r_iconst C (v := 1) (by decide) dL_arePapersSo_426 ?_
                refine r_goto C dL_arePapersSo_427 ?_
                exact j431 o_26 ((1 : Int32)) _ _ _ P (lv_sub hl [] rfl) hf
        refine r_if_le C dL_arePapersSo_343 hf (fun hf => ?_) (fun hf => ?_)
        · exact j399 o_17 v8_16 _ _ _ P (lv_sub hl [0, 1, 2, 3, 4] rfl) hf
        · refine r_iload C hl 3 rfl dL_arePapersSo_346 ?_
          refine r_bipush C (v := 21) (by decide) dL_arePapersSo_348 ?_
          refine r_icmp_ge C dL_arePapersSo_350 hf (fun hf => ?_) (fun hf => ?_)
          · exact j399 o_17 v8_16 _ _ _ P (lv_sub hl [0, 1, 2, 3, 4] rfl) hf
          · refine r_iload C hl 4 rfl dL_arePapersSo_353 ?_
            refine r_jn (fun k397 : OM → Int32 → Option (Int32 × OM) => ∀ (o_28 : OM) (s_27 : Int32) H1 L1 ls, Hp G o_28 s H1 L1 → lv_has ls 10 [(0, .ref (rA G 0 0)), (1, .int v1), (4, .int r_3), (6, .int r_7)] → k397 o_28 s_27 = some (r, o9) → W p l e rmL_arePapersSo s m args below meth c H1 L1 1 6 (Qm G (some (.int r)) o9 rmL_arePapersSo below args s) (F0 m 397 ls [.int s_27])) hf ?_ (fun k397 j397 hf => ?_)
            · intro o_28 s_27 H1 L1 ls  P hl hf
              refine r_istore C [(8, .int s_27), (0, .ref (rA G 0 0)), (1, .int v1), (4, .int r_3), (6, .int r_7)] hl (by decide) rfl dL_arePapersSo_397 (fun ls hl => ?_)
              exact j399 o_28 s_27 _ _ _ P (lv_sub hl [1, 2, 3, 4, 0] rfl) hf
            refine r_jn (fun k396 : OM → Option (Int32 × OM) => ∀ (o_29 : OM) H1 L1 ls, Hp G o_29 s H1 L1 → lv_has ls 10 [(0, .ref (rA G 0 0)), (1, .int v1), (4, .int r_3), (6, .int r_7)] → k396 o_29 = some (r, o9) → W p l e rmL_arePapersSo s m args below meth c H1 L1 1 6 (Qm G (some (.int r)) o9 rmL_arePapersSo below args s) (F0 m 396 ls [])) hf ?_ (fun k396 j396 hf => ?_)
            · intro o_29 H1 L1 ls  P hl hf
              refine r_iconst C (v := 0) (by decide) dL_arePapersSo_396 ?_
              exact j397 o_29 ((0 : Int32)) _ _ _ P (lv_sub hl [0, 1, 2, 3] rfl) hf
            refine r_if_eq C dL_arePapersSo_355 hf (fun hf => ?_) (fun hf => ?_)
            · exact j396 o_17 _ _ _ P (lv_sub hl [0, 1, 2, 3] rfl) hf
            · refine r_aload_n C hl 0 rfl rfl dL_arePapersSo_358 ?_
              refine r_iload C hl 3 rfl dL_arePapersSo_359 ?_
              refine m_cVi C X P cf_L_18 (rm := rmX5_pass) rfl [.int r_7] [] hf (fun _ _ h => ctX5_pass l G hl9 o_17 r_7 h) ⟨Nat.le_of_ble_eq_true rfl, Nat.le_of_ble_eq_true rfl⟩ ⟨Nat.le_of_ble_eq_true rfl, Nat.le_of_ble_eq_true rfl⟩ rfl rfl hl.1 (Nat.le_of_ble_eq_true rfl) dL_arePapersSo_361 (fun r_30 o_31 H1 L1 P hf => ?_)
              refine r_if_le C dL_arePapersSo_364 hf (fun hf => ?_) (fun hf => ?_)
              · exact j396 o_31 _ _ _ P (lv_sub hl [0, 1, 2, 3] rfl) hf
              · refine r_aload_n C hl 0 rfl rfl dL_arePapersSo_367 ?_
                refine r_iload_n C hl 1 rfl rfl dL_arePapersSo_368 ?_
                refine r_bipush C (v := 6) (by decide) dL_arePapersSo_369 ?_
                refine m_cVi C X P cf_L_61 (rm := rmX5_thermometer) rfl [.int v1, .int ((6 : Int32))] [] hf (fun _ _ h => ctX5_thermometer l G hl9 o_31 v1 ((6 : Int32)) h) ⟨Nat.le_of_ble_eq_true rfl, Nat.le_of_ble_eq_true rfl⟩ ⟨Nat.le_of_ble_eq_true rfl, Nat.le_of_ble_eq_true rfl⟩ rfl rfl hl.1 (Nat.le_of_ble_eq_true rfl) dL_arePapersSo_371 (fun r_32 o_33 H1 L1 P hf => ?_)
                refine r_if_ne C dL_arePapersSo_374 hf (fun hf => ?_) (fun hf => ?_)
                · exact j396 o_33 _ _ _ P (lv_sub hl [0, 1, 2, 3] rfl) hf
                · refine r_aload_n C hl 0 rfl rfl dL_arePapersSo_377 ?_
                  refine r_iload_n C hl 1 rfl rfl dL_arePapersSo_378 ?_
                  refine m_cVi C X P cf_L_80 (rm := rmX5_voidIn) rfl [.int v1] [] hf (fun _ _ h => ctX5_voidIn l G hl9 o_33 v1 h) ⟨Nat.le_of_ble_eq_true rfl, Nat.le_of_ble_eq_true rfl⟩ ⟨Nat.le_of_ble_eq_true rfl, Nat.le_of_ble_eq_true rfl⟩ rfl rfl hl.1 (Nat.le_of_ble_eq_true rfl) dL_arePapersSo_379 (fun r_34 o_35 H1 L1 P hf => ?_)
                  refine r_if_ne C dL_arePapersSo_382 hf (fun hf => ?_) (fun hf => ?_)
                  · exact j396 o_35 _ _ _ P (lv_sub hl [0, 1, 2, 3] rfl) hf
                  · refine r_aload_n C hl 0 rfl rfl dL_arePapersSo_385 ?_
                    refine m_cVi C X P cf_L_83 (rm := rmX5_undo) rfl [] [] hf (fun _ _ h => ctX5_undo l G hl9 o_35 h) ⟨Nat.le_of_ble_eq_true rfl, Nat.le_of_ble_eq_true rfl⟩ ⟨Nat.le_of_ble_eq_true rfl, Nat.le_of_ble_eq_true rfl⟩ rfl rfl hl.1 (Nat.le_of_ble_eq_true rfl) dL_arePapersSo_386 (fun r_36 o_37 H1 L1 P hf => ?_)
                    refine r_if_lt C dL_arePapersSo_389 hf (fun hf => ?_) (fun hf => ?_)
                    · exact j396 o_37 _ _ _ P (lv_sub hl [0, 1, 2, 3] rfl) hf
                    · refine r_iconst C (v := 1) (by decide) dL_arePapersSo_392 ?_
                      refine r_goto C dL_arePapersSo_393 ?_
                      exact j397 o_37 ((1 : Int32)) _ _ _ P (lv_sub hl [0, 1, 2, 3] rfl) hf
      refine r_icmp_le C dL_arePapersSo_281 hf (fun hf => ?_) (fun hf => ?_)
      · exact j341 o_15 s_14 _ _ _ P (lv_sub hl [1, 2, 3, 4, 0] rfl) hf
      · refine r_iload C hl 4 rfl dL_arePapersSo_284 ?_
        refine r_bipush C (v := 21) (by decide) dL_arePapersSo_286 ?_
        refine r_icmp_ge C dL_arePapersSo_288 hf (fun hf => ?_) (fun hf => ?_)
        · exact j341 o_15 s_14 _ _ _ P (lv_sub hl [1, 2, 3, 4, 0] rfl) hf
        · refine r_iload C hl 0 rfl dL_arePapersSo_291 ?_
          refine r_jn (fun k339 : OM → Int32 → Option (Int32 × OM) => ∀ (o_39 : OM) (s_38 : Int32) H1 L1 ls, Hp G o_39 s H1 L1 → lv_has ls 10 [(0, .ref (rA G 0 0)), (1, .int v1), (4, .int r_3), (6, .int r_7)] → k339 o_39 s_38 = some (r, o9) → W p l e rmL_arePapersSo s m args below meth c H1 L1 1 6 (Qm G (some (.int r)) o9 rmL_arePapersSo below args s) (F0 m 339 ls [.int s_38])) hf ?_ (fun k339 j339 hf => ?_)
          · intro o_39 s_38 H1 L1 ls  P hl hf
            refine r_istore C [(8, .int s_38), (0, .ref (rA G 0 0)), (1, .int v1), (4, .int r_3), (6, .int r_7)] hl (by decide) rfl dL_arePapersSo_339 (fun ls hl => ?_)
            exact j341 o_39 s_38 _ _ _ P (lv_sub hl [1, 2, 3, 4, 0] rfl) hf
          refine r_jn (fun k338 : OM → Option (Int32 × OM) => ∀ (o_40 : OM) H1 L1 ls, Hp G o_40 s H1 L1 → lv_has ls 10 [(0, .ref (rA G 0 0)), (1, .int v1), (4, .int r_3), (6, .int r_7)] → k338 o_40 = some (r, o9) → W p l e rmL_arePapersSo s m args below meth c H1 L1 1 6 (Qm G (some (.int r)) o9 rmL_arePapersSo below args s) (F0 m 338 ls [])) hf ?_ (fun k338 j338 hf => ?_)
          · intro o_40 H1 L1 ls  P hl hf
            refine r_iconst C (v := 0) (by decide) dL_arePapersSo_338 ?_
            exact j339 o_40 ((0 : Int32)) _ _ _ P (lv_sub hl [0, 1, 2, 3] rfl) hf
          refine r_if_eq C dL_arePapersSo_293 hf (fun hf => ?_) (fun hf => ?_)
          · exact j338 o_15 _ _ _ P (lv_sub hl [1, 2, 3, 4] rfl) hf
          · refine r_aload_n C hl 1 rfl rfl dL_arePapersSo_296 ?_
            refine r_iload C hl 4 rfl dL_arePapersSo_297 ?_
            refine r_iconst C (v := 1) (by decide) dL_arePapersSo_299 ?_
            refine r_isub C dL_arePapersSo_300 ?_
            refine m_cVi C X P cf_L_18 (rm := rmX5_pass) rfl [.int (r_7 - ((1 : Int32)))] [] hf (fun _ _ h => ctX5_pass l G hl9 o_15 (r_7 - ((1 : Int32))) h) ⟨Nat.le_of_ble_eq_true rfl, Nat.le_of_ble_eq_true rfl⟩ ⟨Nat.le_of_ble_eq_true rfl, Nat.le_of_ble_eq_true rfl⟩ rfl rfl hl.1 (Nat.le_of_ble_eq_true rfl) dL_arePapersSo_301 (fun r_41 o_42 H1 L1 P hf => ?_)
            refine r_if_le C dL_arePapersSo_304 hf (fun hf => ?_) (fun hf => ?_)
            · exact j338 o_42 _ _ _ P (lv_sub hl [1, 2, 3, 4] rfl) hf
            · refine r_aload_n C hl 1 rfl rfl dL_arePapersSo_307 ?_
              refine r_iload_n C hl 2 rfl rfl dL_arePapersSo_308 ?_
              refine r_bipush C (v := 6) (by decide) dL_arePapersSo_309 ?_
              refine m_cVi C X P cf_L_61 (rm := rmX5_thermometer) rfl [.int v1, .int ((6 : Int32))] [] hf (fun _ _ h => ctX5_thermometer l G hl9 o_42 v1 ((6 : Int32)) h) ⟨Nat.le_of_ble_eq_true rfl, Nat.le_of_ble_eq_true rfl⟩ ⟨Nat.le_of_ble_eq_true rfl, Nat.le_of_ble_eq_true rfl⟩ rfl rfl hl.1 (Nat.le_of_ble_eq_true rfl) dL_arePapersSo_311 (fun r_43 o_44 H1 L1 P hf => ?_)
              refine r_iconst C (v := 1) (by decide) dL_arePapersSo_314 ?_
              refine r_icmp_ne C dL_arePapersSo_315 hf (fun hf => ?_) (fun hf => ?_)
              · exact j338 o_44 _ _ _ P (lv_sub hl [1, 2, 3, 4] rfl) hf
              · refine r_aload_n C hl 1 rfl rfl dL_arePapersSo_318 ?_
                refine r_iload_n C hl 2 rfl rfl dL_arePapersSo_319 ?_
                refine m_cVi C X P cf_L_80 (rm := rmX5_voidIn) rfl [.int v1] [] hf (fun _ _ h => ctX5_voidIn l G hl9 o_44 v1 h) ⟨Nat.le_of_ble_eq_true rfl, Nat.le_of_ble_eq_true rfl⟩ ⟨Nat.le_of_ble_eq_true rfl, Nat.le_of_ble_eq_true rfl⟩ rfl rfl hl.1 (Nat.le_of_ble_eq_true rfl) dL_arePapersSo_320 (fun r_45 o_46 H1 L1 P hf => ?_)
                refine r_iconst C (v := 1) (by decide) dL_arePapersSo_323 ?_
                refine r_icmp_ne C dL_arePapersSo_324 hf (fun hf => ?_) (fun hf => ?_)
                · exact j338 o_46 _ _ _ P (lv_sub hl [1, 2, 3, 4] rfl) hf
                · refine r_aload_n C hl 1 rfl rfl dL_arePapersSo_327 ?_
                  refine m_cVi C X P cf_L_83 (rm := rmX5_undo) rfl [] [] hf (fun _ _ h => ctX5_undo l G hl9 o_46 h) ⟨Nat.le_of_ble_eq_true rfl, Nat.le_of_ble_eq_true rfl⟩ ⟨Nat.le_of_ble_eq_true rfl, Nat.le_of_ble_eq_true rfl⟩ rfl rfl hl.1 (Nat.le_of_ble_eq_true rfl) dL_arePapersSo_328 (fun r_47 o_48 H1 L1 P hf => ?_)
                  refine r_if_lt C dL_arePapersSo_331 hf (fun hf => ?_) (fun hf => ?_)
                  · exact j338 o_48 _ _ _ P (lv_sub hl [1, 2, 3, 4] rfl) hf
                  · refine r_iconst C (v := 1) (by decide) dL_arePapersSo_334 ?_
                    refine r_goto C dL_arePapersSo_335 ?_
                    exact j339 o_48 ((1 : Int32)) _ _ _ P (lv_sub hl [1, 2, 3, 4] rfl) hf
    refine r_jn (fun k275 : OM → Option (Int32 × OM) => ∀ (o_49 : OM) H1 L1 ls, Hp G o_49 s H1 L1 → lv_has ls 10 [(0, .ref (rA G 0 0)), (1, .int v1), (4, .int r_3), (6, .int r_7)] → k275 o_49 = some (r, o9) → W p l e rmL_arePapersSo s m args below meth c H1 L1 1 6 (Qm G (some (.int r)) o9 rmL_arePapersSo below args s) (F0 m 275 ls [])) hf ?_ (fun k275 j275 hf => ?_)
    · intro o_49 H1 L1 ls  P hl hf
      refine r_iconst C (v := 0) (by decide) dL_arePapersSo_275 ?_
      exact j276 o_49 ((0 : Int32)) _ _ _ P (lv_sub hl [0, 1, 2, 3] rfl) hf
    refine r_if_eq C dL_arePapersSo_167 hf (fun hf => ?_) (fun hf => ?_)
    · exact j275 o_13 _ _ _ P (lv_sub hl [2, 3, 5, 7] rfl) hf
    · refine r_iload C hl 0 rfl dL_arePapersSo_170 ?_
      refine r_jn (fun k180 : Int32 → Option (Int32 × OM) => ∀ (s_50 : Int32) H1 L1 ls, Hp G o_13 s H1 L1 → lv_has ls 10 [(0, .ref (rA G 0 0)), (1, .int v1), (2, .ref (rA G 24 0)), (4, .int r_3), (5, .int r_5), (6, .int r_7), (7, .int r_9), (9, .int r_12)] → k180 s_50 = some (r, o9) → W p l e rmL_arePapersSo s m args below meth c H1 L1 1 6 (Qm G (some (.int r)) o9 rmL_arePapersSo below args s) (F0 m 180 ls [.int s_50])) hf ?_ (fun k180 j180 hf => ?_)
      · intro s_50 H1 L1 ls  P hl hf
        refine r_iload C hl 4 rfl dL_arePapersSo_180 ?_
        refine r_jn (fun k190 : Int32 → Option (Int32 × OM) => ∀ (s_51 : Int32) H1 L1 ls, Hp G o_13 s H1 L1 → lv_has ls 10 [(0, .ref (rA G 0 0)), (1, .int v1), (2, .ref (rA G 24 0)), (4, .int r_3), (6, .int r_7), (7, .int r_9), (9, .int r_12)] → k190 s_51 = some (r, o9) → W p l e rmL_arePapersSo s m args below meth c H1 L1 1 6 (Qm G (some (.int r)) o9 rmL_arePapersSo below args s) (F0 m 190 ls [.int s_51, .int s_50])) hf ?_ (fun k190 j190 hf => ?_)
        · intro s_51 H1 L1 ls  P hl hf
          refine r_icmp_ne C dL_arePapersSo_190 hf (fun hf => ?_) (fun hf => ?_)
          · exact j275 o_13 _ _ _ P (lv_sub hl [0, 1, 3, 4] rfl) hf
          · refine r_iload C hl 6 rfl dL_arePapersSo_193 ?_
            refine r_jn (fun k250 : OM → Option (Int32 × OM) => ∀ (o_52 : OM) H1 L1 ls, Hp G o_52 s H1 L1 → lv_has ls 10 [(0, .ref (rA G 0 0)), (1, .int v1), (4, .int r_3), (6, .int r_7), (7, .int r_9), (9, .int r_12)] → k250 o_52 = some (r, o9) → W p l e rmL_arePapersSo s m args below meth c H1 L1 1 6 (Qm G (some (.int r)) o9 rmL_arePapersSo below args s) (F0 m 250 ls [])) hf ?_ (fun k250 j250 hf => ?_)
            · intro o_52 H1 L1 ls  P hl hf
              refine r_iload C hl 5 rfl dL_arePapersSo_250 ?_
              refine r_jn (fun k261 : Unit → Option (Int32 × OM) => ∀ H1 L1 ls, Hp G o_52 s H1 L1 → lv_has ls 10 [(0, .ref (rA G 0 0)), (1, .int v1), (4, .int r_3), (6, .int r_7), (7, .int r_9)] → k261 () = some (r, o9) → W p l e rmL_arePapersSo s m args below meth c H1 L1 1 6 (Qm G (some (.int r)) o9 rmL_arePapersSo below args s) (F0 m 261 ls [])) hf ?_ (fun k261 j261 hf => ?_)
              · intro  H1 L1 ls  P hl hf
                refine r_aload_n C hl 0 rfl rfl dL_arePapersSo_261 ?_
                refine r_iconst C (v := 4) (by decide) dL_arePapersSo_262 ?_
                refine m_cVi C X P cf_L_48 (rm := rmX5_count) rfl [.int ((4 : Int32))] [] hf (fun _ _ h => ctX5_count l G hl9 o_52 ((4 : Int32)) h) ⟨Nat.le_of_ble_eq_true rfl, Nat.le_of_ble_eq_true rfl⟩ ⟨Nat.le_of_ble_eq_true rfl, Nat.le_of_ble_eq_true rfl⟩ rfl rfl hl.1 (Nat.le_of_ble_eq_true rfl) dL_arePapersSo_263 (fun r_53 o_54 H1 L1 P hf => ?_)
                refine r_iload C hl 4 rfl dL_arePapersSo_266 ?_
                refine r_icmp_ne C dL_arePapersSo_268 hf (fun hf => ?_) (fun hf => ?_)
                · exact j275 o_54 _ _ _ P (lv_sub hl [0, 1, 2, 3] rfl) hf
                · refine r_iconst C (v := 1) (by decide) dL_arePapersSo_271 ?_
                  refine r_goto C dL_arePapersSo_272 ?_
                  exact j276 o_54 ((1 : Int32)) _ _ _ P (lv_sub hl [0, 1, 2, 3] rfl) hf
              refine r_if_eq C dL_arePapersSo_252 hf (fun hf => ?_) (fun hf => ?_)
              · exact j261  _ _ _ P (lv_sub hl [0, 1, 2, 3, 4] rfl) hf
              · refine r_iload C hl 5 rfl dL_arePapersSo_255 ?_
                refine r_iconst C (v := 3) (by decide) dL_arePapersSo_257 ?_
                refine r_icmp_ne C dL_arePapersSo_258 hf (fun hf => ?_) (fun hf => ?_)
                · exact j275 o_52 _ _ _ P (lv_sub hl [0, 1, 2, 3] rfl) hf
                · exact j261  _ _ _ P (lv_sub hl [0, 1, 2, 3, 4] rfl) hf
            refine r_if_ne C dL_arePapersSo_195 hf (fun hf => ?_) (fun hf => ?_)
            · exact j250 o_13 _ _ _ P (lv_sub hl [0, 1, 3, 4, 5, 6] rfl) hf
            · refine r_aload_n C hl 2 rfl rfl dL_arePapersSo_198 ?_
              refine r_iconst C (v := 0) (by decide) dL_arePapersSo_199 ?_
              refine r_iald C P (k := 24) (i := 0) (n := 1) (fun _ _ => rfl) rfl dL_arePapersSo_200 hf (fun hf => ?_)
              refine r_iload C hl 5 rfl dL_arePapersSo_201 ?_
              refine r_iconst C (v := 1) (by decide) dL_arePapersSo_203 ?_
              refine r_iadd2 C dL_arePapersSo_204 ?_
              refine r_icmp_ne C dL_arePapersSo_205 hf (fun hf => ?_) (fun hf => ?_)
              · exact j275 o_13 _ _ _ P (lv_sub hl [0, 1, 3, 4] rfl) hf
              · refine r_aload_n C hl 0 rfl rfl dL_arePapersSo_208 ?_
                refine r_iload_n C hl 1 rfl rfl dL_arePapersSo_209 ?_
                refine r_iconst C (v := 5) (by decide) dL_arePapersSo_210 ?_
                refine m_cVi C X P cf_L_61 (rm := rmX5_thermometer) rfl [.int v1, .int ((5 : Int32))] [] hf (fun _ _ h => ctX5_thermometer l G hl9 o_13 v1 ((5 : Int32)) h) ⟨Nat.le_of_ble_eq_true rfl, Nat.le_of_ble_eq_true rfl⟩ ⟨Nat.le_of_ble_eq_true rfl, Nat.le_of_ble_eq_true rfl⟩ rfl rfl hl.1 (Nat.le_of_ble_eq_true rfl) dL_arePapersSo_211 (fun r_55 o_56 H1 L1 P hf => ?_)
                refine r_iload C hl 5 rfl dL_arePapersSo_214 ?_
                refine r_iconst C (v := 1) (by decide) dL_arePapersSo_216 ?_
                refine r_iadd2 C dL_arePapersSo_217 ?_
                refine r_icmp_ne C dL_arePapersSo_218 hf (fun hf => ?_) (fun hf => ?_)
                · exact j275 o_56 _ _ _ P (lv_sub hl [0, 1, 3, 4] rfl) hf
                · refine r_aload_n C hl 0 rfl rfl dL_arePapersSo_221 ?_
                  refine r_iload_n C hl 1 rfl rfl dL_arePapersSo_222 ?_
                  refine r_bipush C (v := 6) (by decide) dL_arePapersSo_223 ?_
                  refine m_cVi C X P cf_L_61 (rm := rmX5_thermometer) rfl [.int v1, .int ((6 : Int32))] [] hf (fun _ _ h => ctX5_thermometer l G hl9 o_56 v1 ((6 : Int32)) h) ⟨Nat.le_of_ble_eq_true rfl, Nat.le_of_ble_eq_true rfl⟩ ⟨Nat.le_of_ble_eq_true rfl, Nat.le_of_ble_eq_true rfl⟩ rfl rfl hl.1 (Nat.le_of_ble_eq_true rfl) dL_arePapersSo_225 (fun r_57 o_58 H1 L1 P hf => ?_)
                  refine r_iconst C (v := 1) (by decide) dL_arePapersSo_228 ?_
                  refine r_icmp_ne C dL_arePapersSo_229 hf (fun hf => ?_) (fun hf => ?_)
                  · exact j275 o_58 _ _ _ P (lv_sub hl [0, 1, 3, 4] rfl) hf
                  · refine r_aload_n C hl 0 rfl rfl dL_arePapersSo_232 ?_
                    refine r_iload_n C hl 1 rfl rfl dL_arePapersSo_233 ?_
                    refine r_bipush C (v := 7) (by decide) dL_arePapersSo_234 ?_
                    refine m_cVi C X P cf_L_61 (rm := rmX5_thermometer) rfl [.int v1, .int ((7 : Int32))] [] hf (fun _ _ h => ctX5_thermometer l G hl9 o_58 v1 ((7 : Int32)) h) ⟨Nat.le_of_ble_eq_true rfl, Nat.le_of_ble_eq_true rfl⟩ ⟨Nat.le_of_ble_eq_true rfl, Nat.le_of_ble_eq_true rfl⟩ rfl rfl hl.1 (Nat.le_of_ble_eq_true rfl) dL_arePapersSo_236 (fun r_59 o_60 H1 L1 P hf => ?_)
                    refine r_iconst C (v := 5) (by decide) dL_arePapersSo_239 ?_
                    refine r_icmp_ne C dL_arePapersSo_240 hf (fun hf => ?_) (fun hf => ?_)
                    · exact j275 o_60 _ _ _ P (lv_sub hl [0, 1, 3, 4] rfl) hf
                    · refine r_aload_n C hl 0 rfl rfl dL_arePapersSo_243 ?_
                      refine m_cVi C X P cf_L_83 (rm := rmX5_undo) rfl [] [] hf (fun _ _ h => ctX5_undo l G hl9 o_60 h) ⟨Nat.le_of_ble_eq_true rfl, Nat.le_of_ble_eq_true rfl⟩ ⟨Nat.le_of_ble_eq_true rfl, Nat.le_of_ble_eq_true rfl⟩ rfl rfl hl.1 (Nat.le_of_ble_eq_true rfl) dL_arePapersSo_244 (fun r_61 o_62 H1 L1 P hf => ?_)
                      refine r_if_lt C dL_arePapersSo_247 hf (fun hf => ?_) (fun hf => ?_)
                      · exact j275 o_62 _ _ _ P (lv_sub hl [0, 1, 3, 4] rfl) hf
                      · exact j250 o_62 _ _ _ P (lv_sub hl [0, 1, 3, 4, 5, 6] rfl) hf
        refine r_if_ne C dL_arePapersSo_182 hf (fun hf => ?_) (fun hf => ?_)
        · refine r_iconst C (v := 0) (by decide) dL_arePapersSo_189 ?_
          exact j190 ((0 : Int32)) _ _ _ P (lv_sub hl [0, 1, 2, 3, 5, 6, 7] rfl) hf
        · refine r_iconst C (v := 1) (by decide) dL_arePapersSo_185 ?_
          refine r_goto C dL_arePapersSo_186 ?_
          exact j190 ((1 : Int32)) _ _ _ P (lv_sub hl [0, 1, 2, 3, 5, 6, 7] rfl) hf
      refine r_if_ne C dL_arePapersSo_172 hf (fun hf => ?_) (fun hf => ?_)
      · refine r_iconst C (v := 0) (by decide) dL_arePapersSo_179 ?_
        exact j180 ((0 : Int32)) _ _ _ P (lv_sub hl [2, 3, 4, 5, 6, 7, 8, 0] rfl) hf
      · refine r_iconst C (v := 1) (by decide) dL_arePapersSo_175 ?_
        refine r_goto C dL_arePapersSo_176 ?_
        exact j180 ((1 : Int32)) _ _ _ P (lv_sub hl [2, 3, 4, 5, 6, 7, 8, 0] rfl) hf
  refine r_jn (fun k151 : Unit → Option (Int32 × OM) => ∀ H1 L1 ls, Hp G o_10 s H1 L1 → lv_has ls 10 [(0, .ref (rA G 0 0)), (1, .int v1), (2, .ref (rA G 24 0)), (4, .int r_3), (5, .int r_5), (6, .int r_7), (7, .int r_9)] → k151 () = some (r, o9) → W p l e rmL_arePapersSo s m args below meth c H1 L1 0 0 (Qm G (some (.int r)) o9 rmL_arePapersSo below args s) (F0 m 151 ls [])) hf ?_ (fun k151 j151 hf => ?_)
  · intro  H1 L1 ls  P hl hf
    refine r_iconst C (v := 0) (by decide) dL_arePapersSo_151 ?_
    exact j152 ((0 : Int32)) _ _ _ P (lv_sub hl [0, 1, 2, 3, 4, 5, 6] rfl) hf
  refine r_icmp_gt C dL_arePapersSo_42 hf (fun hf => ?_) (fun hf => ?_)
  · exact j151  _ _ _ P (lv_sub hl [5, 6, 7, 3, 2, 1, 0] rfl) hf
  · refine r_iload_n C hl 4 rfl rfl dL_arePapersSo_45 ?_
    refine r_iconst C (v := -1) (by decide) dL_arePapersSo_46 ?_
    refine r_jn (fun k54 : Unit → Option (Int32 × OM) => ∀ H1 L1 ls, Hp G o_10 s H1 L1 → lv_has ls 10 [(0, .ref (rA G 0 0)), (1, .int v1), (2, .ref (rA G 24 0)), (3, .int r_1), (4, .int r_3), (5, .int r_5), (6, .int r_7), (7, .int r_9)] → k54 () = some (r, o9) → W p l e rmL_arePapersSo s m args below meth c H1 L1 0 0 (Qm G (some (.int r)) o9 rmL_arePapersSo below args s) (F0 m 54 ls [])) hf ?_ (fun k54 j54 hf => ?_)
    · intro  H1 L1 ls  P hl hf
      refine r_iload C hl 4 rfl dL_arePapersSo_54 ?_
      refine r_jn (fun k63 : Unit → Option (Int32 × OM) => ∀ H1 L1 ls, Hp G o_10 s H1 L1 → lv_has ls 10 [(0, .ref (rA G 0 0)), (1, .int v1), (2, .ref (rA G 24 0)), (3, .int r_1), (4, .int r_3), (5, .int r_5), (6, .int r_7), (7, .int r_9)] → k63 () = some (r, o9) → W p l e rmL_arePapersSo s m args below meth c H1 L1 0 0 (Qm G (some (.int r)) o9 rmL_arePapersSo below args s) (F0 m 63 ls [])) hf ?_ (fun k63 j63 hf => ?_)
      · intro  H1 L1 ls  P hl hf
        refine r_iload C hl 5 rfl dL_arePapersSo_63 ?_
        refine r_jn (fun k81 : Unit → Option (Int32 × OM) => ∀ H1 L1 ls, Hp G o_10 s H1 L1 → lv_has ls 10 [(0, .ref (rA G 0 0)), (1, .int v1), (2, .ref (rA G 24 0)), (3, .int r_1), (4, .int r_3), (5, .int r_5), (6, .int r_7), (7, .int r_9)] → k81 () = some (r, o9) → W p l e rmL_arePapersSo s m args below meth c H1 L1 0 0 (Qm G (some (.int r)) o9 rmL_arePapersSo below args s) (F0 m 81 ls [])) hf ?_ (fun k81 j81 hf => ?_)
        · intro  H1 L1 ls  P hl hf
          refine r_iload C hl 5 rfl dL_arePapersSo_81 ?_
          refine r_iconst C (v := 5) (by decide) dL_arePapersSo_83 ?_
          refine r_jn (fun k93 : Unit → Option (Int32 × OM) => ∀ H1 L1 ls, Hp G o_10 s H1 L1 → lv_has ls 10 [(0, .ref (rA G 0 0)), (1, .int v1), (2, .ref (rA G 24 0)), (3, .int r_1), (4, .int r_3), (5, .int r_5), (6, .int r_7), (7, .int r_9)] → k93 () = some (r, o9) → W p l e rmL_arePapersSo s m args below meth c H1 L1 0 0 (Qm G (some (.int r)) o9 rmL_arePapersSo below args s) (F0 m 93 ls [])) hf ?_ (fun k93 j93 hf => ?_)
          · intro  H1 L1 ls  P hl hf
            refine r_iload C hl 4 rfl dL_arePapersSo_93 ?_
            refine r_jn (fun k103 : Unit → Option (Int32 × OM) => ∀ H1 L1 ls, Hp G o_10 s H1 L1 → lv_has ls 10 [(0, .ref (rA G 0 0)), (1, .int v1), (2, .ref (rA G 24 0)), (3, .int r_1), (4, .int r_3), (5, .int r_5), (6, .int r_7), (7, .int r_9)] → k103 () = some (r, o9) → W p l e rmL_arePapersSo s m args below meth c H1 L1 0 0 (Qm G (some (.int r)) o9 rmL_arePapersSo below args s) (F0 m 103 ls [])) hf ?_ (fun k103 j103 hf => ?_)
            · intro  H1 L1 ls  P hl hf
              refine r_iload_n C hl 3 rfl rfl dL_arePapersSo_103 ?_
              refine r_jn (fun k113 : Unit → Option (Int32 × OM) => ∀ H1 L1 ls, Hp G o_10 s H1 L1 → lv_has ls 10 [(0, .ref (rA G 0 0)), (1, .int v1), (2, .ref (rA G 24 0)), (3, .int r_1), (4, .int r_3), (5, .int r_5), (6, .int r_7), (7, .int r_9)] → k113 () = some (r, o9) → W p l e rmL_arePapersSo s m args below meth c H1 L1 0 0 (Qm G (some (.int r)) o9 rmL_arePapersSo below args s) (F0 m 113 ls [])) hf ?_ (fun k113 j113 hf => ?_)
              · intro  H1 L1 ls  P hl hf
                refine r_iload_n C hl 3 rfl rfl dL_arePapersSo_113 ?_
                refine r_jn (fun k140 : Unit → Option (Int32 × OM) => ∀ H1 L1 ls, Hp G o_10 s H1 L1 → lv_has ls 10 [(0, .ref (rA G 0 0)), (1, .int v1), (2, .ref (rA G 24 0)), (4, .int r_3), (5, .int r_5), (6, .int r_7), (7, .int r_9)] → k140 () = some (r, o9) → W p l e rmL_arePapersSo s m args below meth c H1 L1 0 0 (Qm G (some (.int r)) o9 rmL_arePapersSo below args s) (F0 m 140 ls [])) hf ?_ (fun k140 j140 hf => ?_)
                · intro  H1 L1 ls  P hl hf
                  refine r_iload C hl 5 rfl dL_arePapersSo_140 ?_
                  refine r_bipush C (v := 50) (by decide) dL_arePapersSo_142 ?_
                  refine r_icmp_gt C dL_arePapersSo_144 hf (fun hf => ?_) (fun hf => ?_)
                  · exact j151  _ _ _ P (lv_sub hl [0, 1, 2, 3, 4, 5, 6] rfl) hf
                  · refine r_iconst C (v := 1) (by decide) dL_arePapersSo_147 ?_
                    refine r_goto C dL_arePapersSo_148 ?_
                    exact j152 ((1 : Int32)) _ _ _ P (lv_sub hl [0, 1, 2, 3, 4, 5, 6] rfl) hf
                refine r_if_lt C dL_arePapersSo_114 hf (fun hf => ?_) (fun hf => ?_)
                · exact j140  _ _ _ P (lv_sub hl [0, 1, 2, 4, 5, 6, 7] rfl) hf
                · refine r_iload C hl 6 rfl dL_arePapersSo_117 ?_
                  refine r_jn (fun k127 : Int32 → Option (Int32 × OM) => ∀ (s_63 : Int32) H1 L1 ls, Hp G o_10 s H1 L1 → lv_has ls 10 [(0, .ref (rA G 0 0)), (1, .int v1), (2, .ref (rA G 24 0)), (4, .int r_3), (5, .int r_5), (6, .int r_7), (7, .int r_9)] → k127 s_63 = some (r, o9) → W p l e rmL_arePapersSo s m args below meth c H1 L1 0 0 (Qm G (some (.int r)) o9 rmL_arePapersSo below args s) (F0 m 127 ls [.int s_63])) hf ?_ (fun k127 j127 hf => ?_)
                  · intro s_63 H1 L1 ls  P hl hf
                    refine r_iload C hl 3 rfl dL_arePapersSo_127 ?_
                    refine r_jn (fun k137 : Int32 → Option (Int32 × OM) => ∀ (s_64 : Int32) H1 L1 ls, Hp G o_10 s H1 L1 → lv_has ls 10 [(0, .ref (rA G 0 0)), (1, .int v1), (2, .ref (rA G 24 0)), (4, .int r_3), (5, .int r_5), (6, .int r_7), (7, .int r_9)] → k137 s_64 = some (r, o9) → W p l e rmL_arePapersSo s m args below meth c H1 L1 0 0 (Qm G (some (.int r)) o9 rmL_arePapersSo below args s) (F0 m 137 ls [.int s_64, .int s_63])) hf ?_ (fun k137 j137 hf => ?_)
                    · intro s_64 H1 L1 ls  P hl hf
                      refine r_icmp_ne C dL_arePapersSo_137 hf (fun hf => ?_) (fun hf => ?_)
                      · exact j151  _ _ _ P (lv_sub hl [0, 1, 2, 3, 4, 5, 6] rfl) hf
                      · exact j140  _ _ _ P (lv_sub hl [0, 1, 2, 3, 4, 5, 6] rfl) hf
                    refine r_if_ne C dL_arePapersSo_129 hf (fun hf => ?_) (fun hf => ?_)
                    · refine r_iconst C (v := 0) (by decide) dL_arePapersSo_136 ?_
                      exact j137 ((0 : Int32)) _ _ _ P (lv_sub hl [0, 1, 2, 3, 4, 5, 6] rfl) hf
                    · refine r_iconst C (v := 1) (by decide) dL_arePapersSo_132 ?_
                      refine r_goto C dL_arePapersSo_133 ?_
                      exact j137 ((1 : Int32)) _ _ _ P (lv_sub hl [0, 1, 2, 3, 4, 5, 6] rfl) hf
                  refine r_if_ne C dL_arePapersSo_119 hf (fun hf => ?_) (fun hf => ?_)
                  · refine r_iconst C (v := 0) (by decide) dL_arePapersSo_126 ?_
                    exact j127 ((0 : Int32)) _ _ _ P (lv_sub hl [0, 1, 2, 4, 5, 6, 7] rfl) hf
                  · refine r_iconst C (v := 1) (by decide) dL_arePapersSo_122 ?_
                    refine r_goto C dL_arePapersSo_123 ?_
                    exact j127 ((1 : Int32)) _ _ _ P (lv_sub hl [0, 1, 2, 4, 5, 6, 7] rfl) hf
              refine r_if_gt C dL_arePapersSo_104 hf (fun hf => ?_) (fun hf => ?_)
              · exact j113  _ _ _ P (lv_sub hl [0, 1, 2, 3, 4, 5, 6, 7] rfl) hf
              · refine r_iload C hl 6 rfl dL_arePapersSo_107 ?_
                refine r_iconst C (v := -1) (by decide) dL_arePapersSo_109 ?_
                refine r_icmp_ne C dL_arePapersSo_110 hf (fun hf => ?_) (fun hf => ?_)
                · exact j151  _ _ _ P (lv_sub hl [0, 1, 2, 4, 5, 6, 7] rfl) hf
                · exact j113  _ _ _ P (lv_sub hl [0, 1, 2, 3, 4, 5, 6, 7] rfl) hf
            refine r_if_eq C dL_arePapersSo_95 hf (fun hf => ?_) (fun hf => ?_)
            · exact j103  _ _ _ P (lv_sub hl [0, 1, 2, 3, 4, 5, 6, 7] rfl) hf
            · refine r_iload C hl 5 rfl dL_arePapersSo_98 ?_
              refine r_if_le C dL_arePapersSo_100 hf (fun hf => ?_) (fun hf => ?_)
              · exact j151  _ _ _ P (lv_sub hl [0, 1, 2, 4, 5, 6, 7] rfl) hf
              · exact j103  _ _ _ P (lv_sub hl [0, 1, 2, 3, 4, 5, 6, 7] rfl) hf
          refine r_icmp_ne C dL_arePapersSo_84 hf (fun hf => ?_) (fun hf => ?_)
          · exact j93  _ _ _ P (lv_sub hl [0, 1, 2, 3, 4, 5, 6, 7] rfl) hf
          · refine r_iload C hl 4 rfl dL_arePapersSo_87 ?_
            refine r_iconst C (v := 1) (by decide) dL_arePapersSo_89 ?_
            refine r_icmp_ne C dL_arePapersSo_90 hf (fun hf => ?_) (fun hf => ?_)
            · exact j151  _ _ _ P (lv_sub hl [0, 1, 2, 4, 5, 6, 7] rfl) hf
            · exact j93  _ _ _ P (lv_sub hl [0, 1, 2, 3, 4, 5, 6, 7] rfl) hf
        refine r_if_eq C dL_arePapersSo_65 hf (fun hf => ?_) (fun hf => ?_)
        · exact j81  _ _ _ P (lv_sub hl [0, 1, 2, 3, 4, 5, 6, 7] rfl) hf
        · refine r_iload C hl 5 rfl dL_arePapersSo_68 ?_
          refine r_iconst C (v := 2) (by decide) dL_arePapersSo_70 ?_
          refine r_icmp_le C dL_arePapersSo_71 hf (fun hf => ?_) (fun hf => ?_)
          · exact j151  _ _ _ P (lv_sub hl [0, 1, 2, 4, 5, 6, 7] rfl) hf
          · refine r_iload C hl 5 rfl dL_arePapersSo_74 ?_
            refine r_bipush C (v := 7) (by decide) dL_arePapersSo_76 ?_
            refine r_icmp_ge C dL_arePapersSo_78 hf (fun hf => ?_) (fun hf => ?_)
            · exact j151  _ _ _ P (lv_sub hl [0, 1, 2, 4, 5, 6, 7] rfl) hf
            · exact j81  _ _ _ P (lv_sub hl [0, 1, 2, 3, 4, 5, 6, 7] rfl) hf
      refine r_if_eq C dL_arePapersSo_56 hf (fun hf => ?_) (fun hf => ?_)
      · exact j63  _ _ _ P (lv_sub hl [0, 1, 2, 3, 4, 5, 6, 7] rfl) hf
      · refine r_iload_n C hl 3 rfl rfl dL_arePapersSo_59 ?_
        refine r_if_le C dL_arePapersSo_60 hf (fun hf => ?_) (fun hf => ?_)
        · exact j151  _ _ _ P (lv_sub hl [0, 1, 2, 4, 5, 6, 7] rfl) hf
        · exact j63  _ _ _ P (lv_sub hl [0, 1, 2, 3, 4, 5, 6, 7] rfl) hf
    refine r_icmp_eq C dL_arePapersSo_47 hf (fun hf => ?_) (fun hf => ?_)
    · exact j54  _ _ _ P (lv_sub hl [5, 6, 7, 4, 3, 2, 1, 0] rfl) hf
    · refine r_iload_n C hl 4 rfl rfl dL_arePapersSo_50 ?_
      refine r_if_le C dL_arePapersSo_51 hf (fun hf => ?_) (fun hf => ?_)
      · exact j151  _ _ _ P (lv_sub hl [5, 6, 7, 3, 2, 1, 0] rfl) hf
      · exact j54  _ _ _ P (lv_sub hl [5, 6, 7, 4, 3, 2, 1, 0] rfl) hf
theorem ctL_arePapersSo (l : Launch) (G : Gd) (hl9 : l.stackTraces = false) (o : OM) (v1 : Int32)  {r : Int32} {o9 : OM} (hf : F_L_arePapersSo o v1 = some (r, o9)) : Ctm l yL_arePapersSo cL_arePapersSo 10 (some .boolean) rmL_arePapersSo G [.ref (rA G 0 0), .int v1, .ref (rA G 24 0)] o (some (.int r)) o9 := ctm_of (by decide +kernel) (Nat.le_of_ble_eq_true rfl) (fun p e s m below meth c ls C X P hl => wL_arePapersSo C X hl9  P hl hf)
