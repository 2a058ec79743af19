theorem cf_L_71 : CallF false RL 71 yX5_worstDegree cX5_worstDegree 7 (some .int) 2 := ⟨wd_612, (by rw [if_neg (by decide)]; exact ⟨wd_613, wd_614⟩), wd_10, wd_615, by decide, by decide +kernel⟩
theorem cf_L_74 : CallF false RL 74 yX5_overlap cX5_overlap 4 (some .int) 3 := ⟨wd_617, (by rw [if_neg (by decide)]; exact ⟨wd_618, wd_619⟩), wd_10, wd_620, by decide, by decide +kernel⟩
theorem cf_L_77 : CallF false RL 77 yX5_reads cX5_reads 3 (some .int) 2 := ⟨wd_621, (by rw [if_neg (by decide)]; exact ⟨wd_622, wd_623⟩), wd_10, wd_624, by decide, by decide +kernel⟩
theorem dL_areReadingsSo_0 : Dc cL_areReadingsSo 0 (.iload_n 2) 1 1 := ⟨by decide +kernel, rfl⟩
theorem dL_areReadingsSo_1 : Dc cL_areReadingsSo 1 (.sipush 2900) 3 4 := ⟨by decide +kernel, rfl⟩
theorem dL_areReadingsSo_4 : Dc cL_areReadingsSo 4 (.invokestatic 43) 3 7 := ⟨by decide +kernel, rfl⟩
theorem dL_areReadingsSo_7 : Dc cL_areReadingsSo 7 (.sipush 999) 3 10 := ⟨by decide +kernel, rfl⟩
theorem dL_areReadingsSo_10 : Dc cL_areReadingsSo 10 (.isub) 1 11 := ⟨by decide +kernel, rfl⟩
theorem dL_areReadingsSo_11 : Dc cL_areReadingsSo 11 (.istore_n 3) 1 12 := ⟨by decide +kernel, rfl⟩
theorem dL_areReadingsSo_12 : Dc cL_areReadingsSo 12 (.aload_n 0) 1 13 := ⟨by decide +kernel, rfl⟩
theorem dL_areReadingsSo_13 : Dc cL_areReadingsSo 13 (.iload_n 1) 1 14 := ⟨by decide +kernel, rfl⟩
theorem dL_areReadingsSo_14 : Dc cL_areReadingsSo 14 (.iload_n 3) 1 15 := ⟨by decide +kernel, rfl⟩
theorem dL_areReadingsSo_15 : Dc cL_areReadingsSo 15 (.iconst 0) 1 16 := ⟨by decide +kernel, rfl⟩
theorem dL_areReadingsSo_16 : Dc cL_areReadingsSo 16 (.invokevirtual 67) 3 19 := ⟨by decide +kernel, rfl⟩
theorem dL_areReadingsSo_19 : Dc cL_areReadingsSo 19 (.istore 4) 2 21 := ⟨by decide +kernel, rfl⟩
theorem dL_areReadingsSo_21 : Dc cL_areReadingsSo 21 (.aload_n 0) 1 22 := ⟨by decide +kernel, rfl⟩
theorem dL_areReadingsSo_22 : Dc cL_areReadingsSo 22 (.iload_n 1) 1 23 := ⟨by decide +kernel, rfl⟩
theorem dL_areReadingsSo_23 : Dc cL_areReadingsSo 23 (.iload_n 3) 1 24 := ⟨by decide +kernel, rfl⟩
theorem dL_areReadingsSo_24 : Dc cL_areReadingsSo 24 (.iconst 1) 1 25 := ⟨by decide +kernel, rfl⟩
theorem dL_areReadingsSo_25 : Dc cL_areReadingsSo 25 (.iadd) 1 26 := ⟨by decide +kernel, rfl⟩
theorem dL_areReadingsSo_26 : Dc cL_areReadingsSo 26 (.iload_n 2) 1 27 := ⟨by decide +kernel, rfl⟩
theorem dL_areReadingsSo_27 : Dc cL_areReadingsSo 27 (.iconst 4) 1 28 := ⟨by decide +kernel, rfl⟩
theorem dL_areReadingsSo_28 : Dc cL_areReadingsSo 28 (.ishr) 1 29 := ⟨by decide +kernel, rfl⟩
theorem dL_areReadingsSo_29 : Dc cL_areReadingsSo 29 (.bipush 90) 2 31 := ⟨by decide +kernel, rfl⟩
theorem dL_areReadingsSo_31 : Dc cL_areReadingsSo 31 (.invokestatic 43) 3 34 := ⟨by decide +kernel, rfl⟩
theorem dL_areReadingsSo_34 : Dc cL_areReadingsSo 34 (.iadd) 1 35 := ⟨by decide +kernel, rfl⟩
theorem dL_areReadingsSo_35 : Dc cL_areReadingsSo 35 (.iconst 1) 1 36 := ⟨by decide +kernel, rfl⟩
theorem dL_areReadingsSo_36 : Dc cL_areReadingsSo 36 (.invokevirtual 67) 3 39 := ⟨by decide +kernel, rfl⟩
theorem dL_areReadingsSo_39 : Dc cL_areReadingsSo 39 (.istore 5) 2 41 := ⟨by decide +kernel, rfl⟩
theorem dL_areReadingsSo_41 : Dc cL_areReadingsSo 41 (.iload_n 2) 1 42 := ⟨by decide +kernel, rfl⟩
theorem dL_areReadingsSo_42 : Dc cL_areReadingsSo 42 (.iconst 3) 1 43 := ⟨by decide +kernel, rfl⟩
theorem dL_areReadingsSo_43 : Dc cL_areReadingsSo 43 (.ishr) 1 44 := ⟨by decide +kernel, rfl⟩
theorem dL_areReadingsSo_44 : Dc cL_areReadingsSo 44 (.sipush 1901) 3 47 := ⟨by decide +kernel, rfl⟩
theorem dL_areReadingsSo_47 : Dc cL_areReadingsSo 47 (.invokestatic 43) 3 50 := ⟨by decide +kernel, rfl⟩
theorem dL_areReadingsSo_50 : Dc cL_areReadingsSo 50 (.sipush 400) 3 53 := ⟨by decide +kernel, rfl⟩
theorem dL_areReadingsSo_53 : Dc cL_areReadingsSo 53 (.isub) 1 54 := ⟨by decide +kernel, rfl⟩
theorem dL_areReadingsSo_54 : Dc cL_areReadingsSo 54 (.istore 6) 2 56 := ⟨by decide +kernel, rfl⟩
theorem dL_areReadingsSo_56 : Dc cL_areReadingsSo 56 (.iload_n 2) 1 57 := ⟨by decide +kernel, rfl⟩
theorem dL_areReadingsSo_57 : Dc cL_areReadingsSo 57 (.bipush 6) 2 59 := ⟨by decide +kernel, rfl⟩
theorem dL_areReadingsSo_59 : Dc cL_areReadingsSo 59 (.ishr) 1 60 := ⟨by decide +kernel, rfl⟩
theorem dL_areReadingsSo_60 : Dc cL_areReadingsSo 60 (.aload_n 0) 1 61 := ⟨by decide +kernel, rfl⟩
theorem dL_areReadingsSo_61 : Dc cL_areReadingsSo 61 (.iconst 1) 1 62 := ⟨by decide +kernel, rfl⟩
theorem dL_areReadingsSo_62 : Dc cL_areReadingsSo 62 (.invokevirtual 48) 3 65 := ⟨by decide +kernel, rfl⟩
theorem dL_areReadingsSo_65 : Dc cL_areReadingsSo 65 (.invokestatic 43) 3 68 := ⟨by decide +kernel, rfl⟩
theorem dL_areReadingsSo_68 : Dc cL_areReadingsSo 68 (.istore 7) 2 70 := ⟨by decide +kernel, rfl⟩
theorem dL_areReadingsSo_70 : Dc cL_areReadingsSo 70 (.aload_n 0) 1 71 := ⟨by decide +kernel, rfl⟩
theorem dL_areReadingsSo_71 : Dc cL_areReadingsSo 71 (.iload_n 1) 1 72 := ⟨by decide +kernel, rfl⟩
theorem dL_areReadingsSo_72 : Dc cL_areReadingsSo 72 (.iload 7) 2 74 := ⟨by decide +kernel, rfl⟩
theorem dL_areReadingsSo_74 : Dc cL_areReadingsSo 74 (.invokevirtual 71) 3 77 := ⟨by decide +kernel, rfl⟩
theorem dL_areReadingsSo_77 : Dc cL_areReadingsSo 77 (.istore 8) 2 79 := ⟨by decide +kernel, rfl⟩
theorem dL_areReadingsSo_79 : Dc cL_areReadingsSo 79 (.aload_n 0) 1 80 := ⟨by decide +kernel, rfl⟩
theorem dL_areReadingsSo_80 : Dc cL_areReadingsSo 80 (.iload_n 1) 1 81 := ⟨by decide +kernel, rfl⟩
theorem dL_areReadingsSo_81 : Dc cL_areReadingsSo 81 (.iconst 3) 1 82 := ⟨by decide +kernel, rfl⟩
theorem dL_areReadingsSo_82 : Dc cL_areReadingsSo 82 (.invokevirtual 61) 3 85 := ⟨by decide +kernel, rfl⟩
theorem dL_areReadingsSo_85 : Dc cL_areReadingsSo 85 (.iconst 2) 1 86 := ⟨by decide +kernel, rfl⟩
theorem dL_areReadingsSo_86 : Dj cL_areReadingsSo 86 (.if_icmp .lt 14) 3 89 (14) 100 := ⟨by decide +kernel, rfl, by decide⟩
theorem dL_areReadingsSo_89 : Dc cL_areReadingsSo 89 (.aload_n 0) 1 90 := ⟨by decide +kernel, rfl⟩
theorem dL_areReadingsSo_90 : Dc cL_areReadingsSo 90 (.iload 7) 2 92 := ⟨by decide +kernel, rfl⟩
theorem dL_areReadingsSo_92 : Dc cL_areReadingsSo 92 (.iconst 3) 1 93 := ⟨by decide +kernel, rfl⟩
theorem dL_areReadingsSo_93 : Dc cL_areReadingsSo 93 (.invokevirtual 61) 3 96 := ⟨by decide +kernel, rfl⟩
theorem dL_areReadingsSo_96 : Dc cL_areReadingsSo 96 (.iconst 2) 1 97 := ⟨by decide +kernel, rfl⟩
theorem dL_areReadingsSo_97 : Dj cL_areReadingsSo 97 (.if_icmp .ge 7) 3 100 (7) 104 := ⟨by decide +kernel, rfl, by decide⟩
theorem dL_areReadingsSo_100 : Dc cL_areReadingsSo 100 (.iconst 1) 1 101 := ⟨by decide +kernel, rfl⟩
theorem dL_areReadingsSo_101 : Dj cL_areReadingsSo 101 (.goto 4) 3 104 (4) 105 := ⟨by decide +kernel, rfl, by decide⟩
theorem dL_areReadingsSo_104 : Dc cL_areReadingsSo 104 (.iconst 0) 1 105 := ⟨by decide +kernel, rfl⟩
theorem dL_areReadingsSo_105 : Dc cL_areReadingsSo 105 (.istore 9) 2 107 := ⟨by decide +kernel, rfl⟩
theorem dL_areReadingsSo_107 : Dc cL_areReadingsSo 107 (.iload 4) 2 109 := ⟨by decide +kernel, rfl⟩
theorem dL_areReadingsSo_109 : Dc cL_areReadingsSo 109 (.aload_n 0) 1 110 := ⟨by decide +kernel, rfl⟩
theorem dL_areReadingsSo_110 : Dc cL_areReadingsSo 110 (.iload_n 1) 1 111 := ⟨by decide +kernel, rfl⟩
theorem dL_areReadingsSo_111 : Dc cL_areReadingsSo 111 (.iload_n 3) 1 112 := ⟨by decide +kernel, rfl⟩
theorem dL_areReadingsSo_112 : Dc cL_areReadingsSo 112 (.iconst 1) 1 113 := ⟨by decide +kernel, rfl⟩
theorem dL_areReadingsSo_113 : Dc cL_areReadingsSo 113 (.invokevirtual 67) 3 116 := ⟨by decide +kernel, rfl⟩
theorem dL_areReadingsSo_116 : Dj cL_areReadingsSo 116 (.if_icmp .ne 156) 3 119 (156) 272 := ⟨by decide +kernel, rfl, by decide⟩
theorem dL_areReadingsSo_119 : Dc cL_areReadingsSo 119 (.iload 4) 2 121 := ⟨by decide +kernel, rfl⟩
theorem dL_areReadingsSo_121 : Dc cL_areReadingsSo 121 (.iload 5) 2 123 := ⟨by decide +kernel, rfl⟩
theorem dL_areReadingsSo_123 : Dj cL_areReadingsSo 123 (.if_icmp .gt 149) 3 126 (149) 272 := ⟨by decide +kernel, rfl, by decide⟩
theorem dL_areReadingsSo_126 : Dc cL_areReadingsSo 126 (.aload_n 0) 1 127 := ⟨by decide +kernel, rfl⟩
theorem dL_areReadingsSo_127 : Dc cL_areReadingsSo 127 (.iload_n 1) 1 128 := ⟨by decide +kernel, rfl⟩
theorem dL_areReadingsSo_128 : Dc cL_areReadingsSo 128 (.iconst 3) 1 129 := ⟨by decide +kernel, rfl⟩
theorem dL_areReadingsSo_129 : Dc cL_areReadingsSo 129 (.invokevirtual 61) 3 132 := ⟨by decide +kernel, rfl⟩
theorem dL_areReadingsSo_132 : Dc cL_areReadingsSo 132 (.iconst 2) 1 133 := ⟨by decide +kernel, rfl⟩
theorem dL_areReadingsSo_133 : Dj cL_areReadingsSo 133 (.if_icmp .ge 7) 3 136 (7) 140 := ⟨by decide +kernel, rfl, by decide⟩
theorem dL_areReadingsSo_136 : Dc cL_areReadingsSo 136 (.iconst 1) 1 137 := ⟨by decide +kernel, rfl⟩
theorem dL_areReadingsSo_137 : Dj cL_areReadingsSo 137 (.goto 4) 3 140 (4) 141 := ⟨by decide +kernel, rfl, by decide⟩
theorem dL_areReadingsSo_140 : Dc cL_areReadingsSo 140 (.iconst 0) 1 141 := ⟨by decide +kernel, rfl⟩
theorem dL_areReadingsSo_141 : Dc cL_areReadingsSo 141 (.iload 4) 2 143 := ⟨by decide +kernel, rfl⟩
theorem dL_areReadingsSo_143 : Dc cL_areReadingsSo 143 (.iconst (-1)) 1 144 := ⟨by decide +kernel, rfl⟩
theorem dL_areReadingsSo_144 : Dj cL_areReadingsSo 144 (.if_icmp .ne 7) 3 147 (7) 151 := ⟨by decide +kernel, rfl, by decide⟩
theorem dL_areReadingsSo_147 : Dc cL_areReadingsSo 147 (.iconst 1) 1 148 := ⟨by decide +kernel, rfl⟩
theorem dL_areReadingsSo_148 : Dj cL_areReadingsSo 148 (.goto 4) 3 151 (4) 152 := ⟨by decide +kernel, rfl, by decide⟩
theorem dL_areReadingsSo_151 : Dc cL_areReadingsSo 151 (.iconst 0) 1 152 := ⟨by decide +kernel, rfl⟩
theorem dL_areReadingsSo_152 : Dj cL_areReadingsSo 152 (.if_icmp .ne 120) 3 155 (120) 272 := ⟨by decide +kernel, rfl, by decide⟩
theorem dL_areReadingsSo_155 : Dc cL_areReadingsSo 155 (.aload_n 0) 1 156 := ⟨by decide +kernel, rfl⟩
theorem dL_areReadingsSo_156 : Dc cL_areReadingsSo 156 (.iload_n 1) 1 157 := ⟨by decide +kernel, rfl⟩
theorem dL_areReadingsSo_157 : Dc cL_areReadingsSo 157 (.iload 7) 2 159 := ⟨by decide +kernel, rfl⟩
theorem dL_areReadingsSo_159 : Dc cL_areReadingsSo 159 (.iload 6) 2 161 := ⟨by decide +kernel, rfl⟩
theorem dL_areReadingsSo_161 : Dc cL_areReadingsSo 161 (.invokevirtual 74) 3 164 := ⟨by decide +kernel, rfl⟩
theorem dL_areReadingsSo_164 : Dc cL_areReadingsSo 164 (.aload_n 0) 1 165 := ⟨by decide +kernel, rfl⟩
theorem dL_areReadingsSo_165 : Dc cL_areReadingsSo 165 (.iload 7) 2 167 := ⟨by decide +kernel, rfl⟩
theorem dL_areReadingsSo_167 : Dc cL_areReadingsSo 167 (.iload_n 1) 1 168 := ⟨by decide +kernel, rfl⟩
theorem dL_areReadingsSo_168 : Dc cL_areReadingsSo 168 (.iload 6) 2 170 := ⟨by decide +kernel, rfl⟩
theorem dL_areReadingsSo_170 : Dc cL_areReadingsSo 170 (.invokevirtual 74) 3 173 := ⟨by decide +kernel, rfl⟩
theorem dL_areReadingsSo_173 : Dj cL_areReadingsSo 173 (.if_icmp .ne 99) 3 176 (99) 272 := ⟨by decide +kernel, rfl, by decide⟩
theorem dL_areReadingsSo_176 : Dc cL_areReadingsSo 176 (.aload_n 0) 1 177 := ⟨by decide +kernel, rfl⟩
theorem dL_areReadingsSo_177 : Dc cL_areReadingsSo 177 (.iload_n 1) 1 178 := ⟨by decide +kernel, rfl⟩
theorem dL_areReadingsSo_178 : Dc cL_areReadingsSo 178 (.iload 7) 2 180 := ⟨by decide +kernel, rfl⟩
theorem dL_areReadingsSo_180 : Dc cL_areReadingsSo 180 (.iload 6) 2 182 := ⟨by decide +kernel, rfl⟩
theorem dL_areReadingsSo_182 : Dc cL_areReadingsSo 182 (.invokevirtual 74) 3 185 := ⟨by decide +kernel, rfl⟩
theorem dL_areReadingsSo_185 : Dc cL_areReadingsSo 185 (.iconst (-1)) 1 186 := ⟨by decide +kernel, rfl⟩
theorem dL_areReadingsSo_186 : Dj cL_areReadingsSo 186 (.if_icmp .ne 7) 3 189 (7) 193 := ⟨by decide +kernel, rfl, by decide⟩
theorem dL_areReadingsSo_189 : Dc cL_areReadingsSo 189 (.iconst 1) 1 190 := ⟨by decide +kernel, rfl⟩
theorem dL_areReadingsSo_190 : Dj cL_areReadingsSo 190 (.goto 4) 3 193 (4) 194 := ⟨by decide +kernel, rfl, by decide⟩
theorem dL_areReadingsSo_193 : Dc cL_areReadingsSo 193 (.iconst 0) 1 194 := ⟨by decide +kernel, rfl⟩
theorem dL_areReadingsSo_194 : Dc cL_areReadingsSo 194 (.iload 9) 2 196 := ⟨by decide +kernel, rfl⟩
theorem dL_areReadingsSo_196 : Dj cL_areReadingsSo 196 (.if_icmp .ne 76) 3 199 (76) 272 := ⟨by decide +kernel, rfl, by decide⟩
theorem dL_areReadingsSo_199 : Dc cL_areReadingsSo 199 (.iload 8) 2 201 := ⟨by decide +kernel, rfl⟩
theorem dL_areReadingsSo_201 : Dc cL_areReadingsSo 201 (.iconst (-1)) 1 202 := ⟨by decide +kernel, rfl⟩
theorem dL_areReadingsSo_202 : Dj cL_areReadingsSo 202 (.if_icmp .ne 7) 3 205 (7) 209 := ⟨by decide +kernel, rfl, by decide⟩
theorem dL_areReadingsSo_205 : Dc cL_areReadingsSo 205 (.iconst 1) 1 206 := ⟨by decide +kernel, rfl⟩
theorem dL_areReadingsSo_206 : Dj cL_areReadingsSo 206 (.goto 4) 3 209 (4) 210 := ⟨by decide +kernel, rfl, by decide⟩
theorem dL_areReadingsSo_209 : Dc cL_areReadingsSo 209 (.iconst 0) 1 210 := ⟨by decide +kernel, rfl⟩
theorem dL_areReadingsSo_210 : Dc cL_areReadingsSo 210 (.iload 9) 2 212 := ⟨by decide +kernel, rfl⟩
theorem dL_areReadingsSo_212 : Dj cL_areReadingsSo 212 (.if_icmp .ne 60) 3 215 (60) 272 := ⟨by decide +kernel, rfl, by decide⟩
theorem dL_areReadingsSo_215 : Dc cL_areReadingsSo 215 (.aload_n 0) 1 216 := ⟨by decide +kernel, rfl⟩
theorem dL_areReadingsSo_216 : Dc cL_areReadingsSo 216 (.iload_n 1) 1 217 := ⟨by decide +kernel, rfl⟩
theorem dL_areReadingsSo_217 : Dc cL_areReadingsSo 217 (.iload_n 1) 1 218 := ⟨by decide +kernel, rfl⟩
theorem dL_areReadingsSo_218 : Dc cL_areReadingsSo 218 (.iload 6) 2 220 := ⟨by decide +kernel, rfl⟩
theorem dL_areReadingsSo_220 : Dc cL_areReadingsSo 220 (.invokevirtual 74) 3 223 := ⟨by decide +kernel, rfl⟩
theorem dL_areReadingsSo_223 : Dc cL_areReadingsSo 223 (.aload_n 0) 1 224 := ⟨by decide +kernel, rfl⟩
theorem dL_areReadingsSo_224 : Dc cL_areReadingsSo 224 (.iload_n 1) 1 225 := ⟨by decide +kernel, rfl⟩
theorem dL_areReadingsSo_225 : Dc cL_areReadingsSo 225 (.iconst 3) 1 226 := ⟨by decide +kernel, rfl⟩
theorem dL_areReadingsSo_226 : Dc cL_areReadingsSo 226 (.invokevirtual 61) 3 229 := ⟨by decide +kernel, rfl⟩
theorem dL_areReadingsSo_229 : Dc cL_areReadingsSo 229 (.iconst 2) 1 230 := ⟨by decide +kernel, rfl⟩
theorem dL_areReadingsSo_230 : Dj cL_areReadingsSo 230 (.if_icmp .ge 7) 3 233 (7) 237 := ⟨by decide +kernel, rfl, by decide⟩
theorem dL_areReadingsSo_233 : Dc cL_areReadingsSo 233 (.iconst (-1)) 1 234 := ⟨by decide +kernel, rfl⟩
theorem dL_areReadingsSo_234 : Dj cL_areReadingsSo 234 (.goto 4) 3 237 (4) 238 := ⟨by decide +kernel, rfl, by decide⟩
theorem dL_areReadingsSo_237 : Dc cL_areReadingsSo 237 (.iconst 0) 1 238 := ⟨by decide +kernel, rfl⟩
theorem dL_areReadingsSo_238 : Dj cL_areReadingsSo 238 (.if_icmp .ne 34) 3 241 (34) 272 := ⟨by decide +kernel, rfl, by decide⟩
theorem dL_areReadingsSo_241 : Dc cL_areReadingsSo 241 (.iload 6) 2 243 := ⟨by decide +kernel, rfl⟩
theorem dL_areReadingsSo_243 : Dc cL_areReadingsSo 243 (.sipush 1500) 3 246 := ⟨by decide +kernel, rfl⟩
theorem dL_areReadingsSo_246 : Dj cL_areReadingsSo 246 (.if_icmp .eq 22) 3 249 (22) 268 := ⟨by decide +kernel, rfl, by decide⟩
theorem dL_areReadingsSo_249 : Dc cL_areReadingsSo 249 (.aload_n 0) 1 250 := ⟨by decide +kernel, rfl⟩
theorem dL_areReadingsSo_250 : Dc cL_areReadingsSo 250 (.iload_n 1) 1 251 := ⟨by decide +kernel, rfl⟩
theorem dL_areReadingsSo_251 : Dc cL_areReadingsSo 251 (.iload 6) 2 253 := ⟨by decide +kernel, rfl⟩
theorem dL_areReadingsSo_253 : Dc cL_areReadingsSo 253 (.invokevirtual 77) 3 256 := ⟨by decide +kernel, rfl⟩
theorem dL_areReadingsSo_256 : Dc cL_areReadingsSo 256 (.aload_n 0) 1 257 := ⟨by decide +kernel, rfl⟩
theorem dL_areReadingsSo_257 : Dc cL_areReadingsSo 257 (.iload_n 1) 1 258 := ⟨by decide +kernel, rfl⟩
theorem dL_areReadingsSo_258 : Dc cL_areReadingsSo 258 (.iload 6) 2 260 := ⟨by decide +kernel, rfl⟩
theorem dL_areReadingsSo_260 : Dc cL_areReadingsSo 260 (.iconst 1) 1 261 := ⟨by decide +kernel, rfl⟩
theorem dL_areReadingsSo_261 : Dc cL_areReadingsSo 261 (.iadd) 1 262 := ⟨by decide +kernel, rfl⟩
theorem dL_areReadingsSo_262 : Dc cL_areReadingsSo 262 (.invokevirtual 77) 3 265 := ⟨by decide +kernel, rfl⟩
theorem dL_areReadingsSo_265 : Dj cL_areReadingsSo 265 (.if_icmp .gt 7) 3 268 (7) 272 := ⟨by decide +kernel, rfl, by decide⟩
theorem dL_areReadingsSo_268 : Dc cL_areReadingsSo 268 (.iconst 1) 1 269 := ⟨by decide +kernel, rfl⟩
theorem dL_areReadingsSo_269 : Dj cL_areReadingsSo 269 (.goto 4) 3 272 (4) 273 := ⟨by decide +kernel, rfl, by decide⟩
theorem dL_areReadingsSo_272 : Dc cL_areReadingsSo 272 (.iconst 0) 1 273 := ⟨by decide +kernel, rfl⟩
theorem dL_areReadingsSo_273 : Dc cL_areReadingsSo 273 (.istore 10) 2 275 := ⟨by decide +kernel, rfl⟩
theorem dL_areReadingsSo_275 : Dc cL_areReadingsSo 275 (.sipush (-400)) 3 278 := ⟨by decide +kernel, rfl⟩
theorem dL_areReadingsSo_278 : Dc cL_areReadingsSo 278 (.istore 11) 2 280 := ⟨by decide +kernel, rfl⟩
theorem dL_areReadingsSo_280 : Dc cL_areReadingsSo 280 (.iload 11) 2 282 := ⟨by decide +kernel, rfl⟩
theorem dL_areReadingsSo_282 : Dc cL_areReadingsSo 282 (.sipush 1501) 3 285 := ⟨by decide +kernel, rfl⟩
theorem dL_areReadingsSo_285 : Dj cL_areReadingsSo 285 (.if_icmp .ge 72) 3 288 (72) 357 := ⟨by decide +kernel, rfl, by decide⟩
theorem dL_areReadingsSo_288 : Dc cL_areReadingsSo 288 (.iload 9) 2 290 := ⟨by decide +kernel, rfl⟩
theorem dL_areReadingsSo_290 : Dj cL_areReadingsSo 290 (.ifCond .ne 67) 3 293 (67) 357 := ⟨by decide +kernel, rfl, by decide⟩
theorem dL_areReadingsSo_293 : Dc cL_areReadingsSo 293 (.aload_n 0) 1 294 := ⟨by decide +kernel, rfl⟩
theorem dL_areReadingsSo_294 : Dc cL_areReadingsSo 294 (.iload_n 1) 1 295 := ⟨by decide +kernel, rfl⟩
theorem dL_areReadingsSo_295 : Dc cL_areReadingsSo 295 (.iload 7) 2 297 := ⟨by decide +kernel, rfl⟩
theorem dL_areReadingsSo_297 : Dc cL_areReadingsSo 297 (.iload 8) 2 299 := ⟨by decide +kernel, rfl⟩
theorem dL_areReadingsSo_299 : Dc cL_areReadingsSo 299 (.sipush 10000) 3 302 := ⟨by decide +kernel, rfl⟩
theorem dL_areReadingsSo_302 : Dc cL_areReadingsSo 302 (.isub) 1 303 := ⟨by decide +kernel, rfl⟩
theorem dL_areReadingsSo_303 : Dc cL_areReadingsSo 303 (.invokevirtual 74) 3 306 := ⟨by decide +kernel, rfl⟩
theorem dL_areReadingsSo_306 : Dc cL_areReadingsSo 306 (.aload_n 0) 1 307 := ⟨by decide +kernel, rfl⟩
theorem dL_areReadingsSo_307 : Dc cL_areReadingsSo 307 (.iload_n 1) 1 308 := ⟨by decide +kernel, rfl⟩
theorem dL_areReadingsSo_308 : Dc cL_areReadingsSo 308 (.iload 7) 2 310 := ⟨by decide +kernel, rfl⟩
theorem dL_areReadingsSo_310 : Dc cL_areReadingsSo 310 (.iload 11) 2 312 := ⟨by decide +kernel, rfl⟩
theorem dL_areReadingsSo_312 : Dc cL_areReadingsSo 312 (.invokevirtual 74) 3 315 := ⟨by decide +kernel, rfl⟩
theorem dL_areReadingsSo_315 : Dc cL_areReadingsSo 315 (.isub) 1 316 := ⟨by decide +kernel, rfl⟩
theorem dL_areReadingsSo_316 : Dc cL_areReadingsSo 316 (.istore 12) 2 318 := ⟨by decide +kernel, rfl⟩
theorem dL_areReadingsSo_318 : Dc cL_areReadingsSo 318 (.iload 10) 2 320 := ⟨by decide +kernel, rfl⟩
theorem dL_areReadingsSo_320 : Dj cL_areReadingsSo 320 (.ifCond .eq 28) 3 323 (28) 348 := ⟨by decide +kernel, rfl, by decide⟩
theorem dL_areReadingsSo_323 : Dc cL_areReadingsSo 323 (.iload 12) 2 325 := ⟨by decide +kernel, rfl⟩
theorem dL_areReadingsSo_325 : Dj cL_areReadingsSo 325 (.ifCond .lt 23) 3 328 (23) 348 := ⟨by decide +kernel, rfl, by decide⟩
theorem dL_areReadingsSo_328 : Dc cL_areReadingsSo 328 (.iload 12) 2 330 := ⟨by decide +kernel, rfl⟩
theorem dL_areReadingsSo_330 : Dj cL_areReadingsSo 330 (.ifCond .gt 14) 3 333 (14) 344 := ⟨by decide +kernel, rfl, by decide⟩
theorem dL_areReadingsSo_333 : Dc cL_areReadingsSo 333 (.iload 11) 2 335 := ⟨by decide +kernel, rfl⟩
theorem dL_areReadingsSo_335 : Dc cL_areReadingsSo 335 (.sipush 10000) 3 338 := ⟨by decide +kernel, rfl⟩
theorem dL_areReadingsSo_338 : Dc cL_areReadingsSo 338 (.iadd) 1 339 := ⟨by decide +kernel, rfl⟩
theorem dL_areReadingsSo_339 : Dc cL_areReadingsSo 339 (.iload 8) 2 341 := ⟨by decide +kernel, rfl⟩
theorem dL_areReadingsSo_341 : Dj cL_areReadingsSo 341 (.if_icmp .lt 7) 3 344 (7) 348 := ⟨by decide +kernel, rfl, by decide⟩
theorem dL_areReadingsSo_344 : Dc cL_areReadingsSo 344 (.iconst 1) 1 345 := ⟨by decide +kernel, rfl⟩
theorem dL_areReadingsSo_345 : Dj cL_areReadingsSo 345 (.goto 4) 3 348 (4) 349 := ⟨by decide +kernel, rfl, by decide⟩
theorem dL_areReadingsSo_348 : Dc cL_areReadingsSo 348 (.iconst 0) 1 349 := ⟨by decide +kernel, rfl⟩
theorem dL_areReadingsSo_349 : Dc cL_areReadingsSo 349 (.istore 10) 2 351 := ⟨by decide +kernel, rfl⟩
theorem dL_areReadingsSo_351 : Dc cL_areReadingsSo 351 (.iinc 11 100) 3 354 := ⟨by decide +kernel, rfl⟩
theorem dL_areReadingsSo_354 : Dj cL_areReadingsSo 354 (.goto (-74)) 3 357 (-74) 280 := ⟨by decide +kernel, rfl, by decide⟩
theorem dL_areReadingsSo_357 : Dc cL_areReadingsSo 357 (.iload 10) 2 359 := ⟨by decide +kernel, rfl⟩
theorem dL_areReadingsSo_359 : Dc cL_areReadingsSo 359 (.ireturn) 1 360 := ⟨by decide +kernel, rfl⟩
def LL_areReadingsSo_280 (k357 : OM → Int32 → Option (Int32 × OM)) (s_17 : Int32) (v1 : Int32) (r_12 : Int32) (r_13 : Int32) : Nat → OM → Int32 → Int32 → Option (Int32 × OM)
  | 0 => fun _ _ _ => none
  | n + 1 => fun o_27 v10_25 v11_26 => if ((1501 : Int32)) ≤ v11_26 then (k357 o_27 v10_25) else (if s_17 = 0 then (b0 (F_X5_overlap o_27 v1 r_12 (r_13 - ((10000 : Int32)))) (fun r_28 o_29 => b0 (F_X5_overlap o_29 v1 r_12 v11_26) (fun r_30 o_31 => bd (r_28 - r_30) (fun v12_32 : Int32 => bd (fun (s_33 : Int32) => bd (v11_26 + (100 : Int32)) (fun v11_34 : Int32 => (LL_areReadingsSo_280 k357 s_17 v1 r_12 r_13 n) o_31 s_33 v11_34)) (fun k349 => bd (fun (_ : Unit) => k349 ((0 : Int32))) (fun k348 => if v10_25 = 0 then (k348 ()) else (if v12_32 < 0 then (k348 ()) else (bd (fun (_ : Unit) => k349 ((1 : Int32))) (fun k344 => if 0 < v12_32 then (k344 ()) else (if (v11_26 + ((10000 : Int32))) < r_13 then (k348 ()) else (k344 ()))))))))))) else (k357 o_27 v10_25))
def F_L_areReadingsSo (o : OM) (v1 : Int32) (v2 : Int32) : Option (Int32 × OM) := bq (F_L_low o v2 ((2900 : Int32))) (fun r_1 => bd (r_1 - ((999 : Int32))) (fun v3_2 : Int32 => b0 (F_X5_corrected o v1 v3_2 ((0 : Int32))) (fun r_3 o_4 => bq (F_L_low o_4 (v2 >>> (((4 : Int32)) &&& 31)) ((90 : Int32))) (fun r_5 => b0 (F_X5_corrected o_4 v1 ((v3_2 + ((1 : Int32))) + r_5) ((1 : Int32))) (fun r_6 o_7 => bq (F_L_low o_7 (v2 >>> (((3 : Int32)) &&& 31)) ((1901 : Int32))) (fun r_8 => bd (r_8 - ((400 : Int32))) (fun v6_9 : Int32 => b0 (F_X5_count o_7 ((1 : Int32))) (fun r_10 o_11 => bq (F_L_low o_11 (v2 >>> (((6 : Int32)) &&& 31)) r_10) (fun r_12 => b0 (F_X5_worstDegree o_11 v1 r_12) (fun r_13 o_14 => b0 (F_X5_thermometer o_14 v1 ((3 : Int32))) (fun r_15 o_16 => bd (fun (o_18 : OM) (s_17 : Int32) => b0 (F_X5_corrected o_18 v1 v3_2 ((1 : Int32))) (fun r_19 o_20 => bd (fun (o_22 : OM) (s_21 : Int32) => bd (fun (o_24 : OM) (v10_23 : Int32) => grd (isZ v10_23) (some (v10_23, o_24))) (fun k357 => LL_areReadingsSo_280 k357 s_17 v1 r_12 r_13 FU o_22 s_21 ((-400 : Int32)))) (fun k273 => bd (fun (o_35 : OM) => k273 o_35 ((0 : Int32))) (fun k272 => if r_3 = r_19 then (if r_6 < r_3 then (k272 o_20) else (b0 (F_X5_thermometer o_20 v1 ((3 : Int32))) (fun r_36 o_37 => bd (fun (s_38 : Int32) => bd (fun (s_39 : Int32) => if s_38 = s_39 then (b0 (F_X5_overlap o_37 v1 r_12 v6_9) (fun r_40 o_41 => b0 (F_X5_overlap o_41 r_12 v1 v6_9) (fun r_42 o_43 => if r_40 = r_42 then (b0 (F_X5_overlap o_43 v1 r_12 v6_9) (fun r_44 o_45 => bd (fun (s_46 : Int32) => if s_46 = s_17 then (bd (fun (s_47 : Int32) => if s_47 = s_17 then (b0 (F_X5_overlap o_45 v1 v1 v6_9) (fun r_48 o_49 => b0 (F_X5_thermometer o_49 v1 ((3 : Int32))) (fun r_50 o_51 => bd (fun (s_52 : Int32) => if r_48 = s_52 then (bd (fun (o_53 : OM) => k273 o_53 ((1 : Int32))) (fun k268 => if v6_9 = ((1500 : Int32)) then (k268 o_51) else (b0 (F_X5_reads o_51 v1 v6_9) (fun r_54 o_55 => b0 (F_X5_reads o_55 v1 (v6_9 + ((1 : Int32)))) (fun r_56 o_57 => if r_56 < r_54 then (k272 o_57) else (k268 o_57)))))) else (k272 o_51)) (fun k238 => if ((2 : Int32)) ≤ r_50 then (k238 ((0 : Int32))) else (k238 ((-1 : Int32))))))) else (k272 o_45)) (fun k210 => if r_13 = ((-1 : Int32)) then (k210 ((1 : Int32))) else (k210 ((0 : Int32))))) else (k272 o_45)) (fun k194 => if r_44 = ((-1 : Int32)) then (k194 ((1 : Int32))) else (k194 ((0 : Int32)))))) else (k272 o_43)))) else (k272 o_37)) (fun k152 => if r_3 = ((-1 : Int32)) then (k152 ((1 : Int32))) else (k152 ((0 : Int32))))) (fun k141 => if ((2 : Int32)) ≤ r_36 then (k141 ((0 : Int32))) else (k141 ((1 : Int32))))))) else (k272 o_20))))) (fun k105 => bd (fun (o_58 : OM) => k105 o_58 ((1 : Int32))) (fun k100 => if r_15 < ((2 : Int32)) then (k100 o_16) else (b0 (F_X5_thermometer o_16 r_12 ((3 : Int32))) (fun r_59 o_60 => if ((2 : Int32)) ≤ r_59 then (k105 o_60 ((0 : Int32))) else (k100 o_60))))))))))))))))
abbrev rmL_areReadingsSo : Room := { frames := 8, cells := 0, slots := 0, locals := 142 }
set_option maxHeartbeats 4000000 in
set_option maxRecDepth 100000 in
theorem lL_areReadingsSo_280 {G : Gd} {p : Program} {l : Launch} {e : Env} {s : State} {m : MethodId} {args : Array Value} {below : List Frame} {meth : Method} {c : Code} {r : Int32} {o9 : OM} {s_17 : Int32} {v1 : Int32} {r_12 : Int32} {r_13 : Int32} (C : Cx G RL cL_areReadingsSo 13 (some .boolean) p s m args meth c) (X : XW G s) (hl9 : l.stackTraces = false)  {k357 : OM → Int32 → Option (Int32 × OM)} (j357 : ∀ (o_24 : OM) (v10_23 : Int32) H1 L1 ls, Hp G o_24 s H1 L1 → lv_has ls 13 [(10, .int v10_23)] → k357 o_24 v10_23 = some (r, o9) → W p l e rmL_areReadingsSo s m args below meth c H1 L1 0 0 (Qm G (some (.int r)) o9 rmL_areReadingsSo below args s) (F0 m 357 ls [])) : ∀ (n : Nat) (o_27 : OM) (v10_25 : Int32) (v11_26 : Int32) H1 L1 ls, Hp G o_27 s H1 L1 → lv_has ls 13 [(0, .ref (rA G 0 0)), (1, .int v1), (7, .int r_12), (8, .int r_13), (9, .int s_17), (10, .int v10_25), (11, .int v11_26)] → LL_areReadingsSo_280 k357 s_17 v1 r_12 r_13 n o_27 v10_25 v11_26 = some (r, o9) → W p l e rmL_areReadingsSo s m args below meth c H1 L1 0 0 (Qm G (some (.int r)) o9 rmL_areReadingsSo below args s) (F0 m 280 ls []) := by
  intro n
  induction n with
  | zero =>
    intro o_27 v10_25 v11_26 H1 L1 ls P hl hf
    exact nomatch hf
  | succ n ih =>
    intro o_27 v10_25 v11_26 H1 L1 ls P hl hf
    rw [LL_areReadingsSo_280.eq_2] at hf
    refine r_iload C hl 6 rfl dL_areReadingsSo_280 ?_
    refine r_sipush C (v := 1501) (by decide) dL_areReadingsSo_282 ?_
    refine r_icmp_ge C dL_areReadingsSo_285 hf (fun hf => ?_) (fun hf => ?_)
    · exact j357 o_27 v10_25 _ _ _ P (lv_sub hl [5] rfl) hf
    · refine r_iload C hl 4 rfl dL_areReadingsSo_288 ?_
      refine r_if_ne C dL_areReadingsSo_290 hf (fun hf => ?_) (fun hf => ?_)
      · exact j357 o_27 v10_25 _ _ _ P (lv_sub hl [5] rfl) hf
      · refine r_aload_n C hl 0 rfl rfl dL_areReadingsSo_293 ?_
        refine r_iload_n C hl 1 rfl rfl dL_areReadingsSo_294 ?_
        refine r_iload C hl 2 rfl dL_areReadingsSo_295 ?_
        refine r_iload C hl 3 rfl dL_areReadingsSo_297 ?_
        refine r_sipush C (v := 10000) (by decide) dL_areReadingsSo_299 ?_
        refine r_isub C dL_areReadingsSo_302 ?_
        refine m_cVi C X P cf_L_74 (rm := rmX5_overlap) rfl [.int v1, .int r_12, .int (r_13 - ((10000 : Int32)))] [] hf (fun _ _ h => ctX5_overlap l G hl9 o_27 v1 r_12 (r_13 - ((10000 : Int32))) h) ⟨Nat.le_of_ble_eq_true rfl, Nat.le_of_ble_eq_true rfl⟩ ⟨Nat.le_of_ble_eq_true rfl, Nat.le_of_ble_eq_true rfl⟩ rfl rfl hl.1 (Nat.le_of_ble_eq_true rfl) dL_areReadingsSo_303 (fun r_28 o_29 H1 L1 P hf => ?_)
        refine r_aload_n C hl 0 rfl rfl dL_areReadingsSo_306 ?_
        refine r_iload_n C hl 1 rfl rfl dL_areReadingsSo_307 ?_
        refine r_iload C hl 2 rfl dL_areReadingsSo_308 ?_
        refine r_iload C hl 6 rfl dL_areReadingsSo_310 ?_
        refine m_cVi C X P cf_L_74 (rm := rmX5_overlap) rfl [.int v1, .int r_12, .int v11_26] [.int r_28] hf (fun _ _ h => ctX5_overlap l G hl9 o_29 v1 r_12 v11_26 h) ⟨Nat.le_of_ble_eq_true rfl, Nat.le_of_ble_eq_true rfl⟩ ⟨Nat.le_of_ble_eq_true rfl, Nat.le_of_ble_eq_true rfl⟩ rfl rfl hl.1 (Nat.le_of_ble_eq_true rfl) dL_areReadingsSo_312 (fun r_30 o_31 H1 L1 P hf => ?_)
        refine r_isub C dL_areReadingsSo_315 ?_
        refine r_bdi hf (fun v12_32 hf => ?_)
        refine r_istore C [(12, .int v12_32), (0, .ref (rA G 0 0)), (1, .int v1), (7, .int r_12), (8, .int r_13), (9, .int s_17), (10, .int v10_25), (11, .int v11_26)] hl (by decide) rfl dL_areReadingsSo_316 (fun ls hl => ?_)
        refine r_iload C hl 6 rfl dL_areReadingsSo_318 ?_
        refine r_jn (fun k349 : Int32 → Option (Int32 × OM) => ∀ (s_33 : Int32) H1 L1 ls, Hp G o_31 s H1 L1 → lv_has ls 13 [(0, .ref (rA G 0 0)), (1, .int v1), (7, .int r_12), (8, .int r_13), (9, .int s_17), (11, .int v11_26)] → k349 s_33 = some (r, o9) → W p l e rmL_areReadingsSo s m args below meth c H1 L1 0 0 (Qm G (some (.int r)) o9 rmL_areReadingsSo below args s) (F0 m 349 ls [.int s_33])) hf ?_ (fun k349 j349 hf => ?_)
        · intro s_33 H1 L1 ls  P hl hf
          refine r_istore C [(10, .int s_33), (0, .ref (rA G 0 0)), (1, .int v1), (7, .int r_12), (8, .int r_13), (9, .int s_17), (11, .int v11_26)] hl (by decide) rfl dL_areReadingsSo_349 (fun ls hl => ?_)
          refine r_iinc C (fun v11_34 => [(11, .int v11_34), (10, .int s_33), (0, .ref (rA G 0 0)), (1, .int v1), (7, .int r_12), (8, .int r_13), (9, .int s_17)]) (w := 100) 6 hl rfl (by decide) (by decide) (fun _ => rfl) dL_areReadingsSo_351 hf (fun v11_34 ls hl hf => ?_)
          refine r_goto C dL_areReadingsSo_354 ?_
          exact ih o_31 s_33 v11_34 _ _ _ P (lv_sub hl [2, 3, 4, 5, 6, 1, 0] rfl) hf
        refine r_jn (fun k348 : Unit → Option (Int32 × OM) => ∀ H1 L1 ls, Hp G o_31 s H1 L1 → lv_has ls 13 [(0, .ref (rA G 0 0)), (1, .int v1), (7, .int r_12), (8, .int r_13), (9, .int s_17), (11, .int v11_26)] → k348 () = some (r, o9) → W p l e rmL_areReadingsSo s m args below meth c H1 L1 0 0 (Qm G (some (.int r)) o9 rmL_areReadingsSo below args s) (F0 m 348 ls [])) hf ?_ (fun k348 j348 hf => ?_)
        · intro  H1 L1 ls  P hl hf
          refine r_iconst C (v := 0) (by decide) dL_areReadingsSo_348 ?_
          exact j349 ((0 : Int32)) _ _ _ P (lv_sub hl [0, 1, 2, 3, 4, 5] rfl) hf
        refine r_if_eq C dL_areReadingsSo_320 hf (fun hf => ?_) (fun hf => ?_)
        · exact j348  _ _ _ P (lv_sub hl [1, 2, 3, 4, 5, 7] rfl) hf
        · refine r_iload C hl 0 rfl dL_areReadingsSo_323 ?_
          refine r_if_lt C dL_areReadingsSo_325 hf (fun hf => ?_) (fun hf => ?_)
          · exact j348  _ _ _ P (lv_sub hl [1, 2, 3, 4, 5, 7] rfl) hf
          · refine r_iload C hl 0 rfl dL_areReadingsSo_328 ?_
            refine r_jn (fun k344 : Unit → Option (Int32 × OM) => ∀ H1 L1 ls, Hp G o_31 s H1 L1 → lv_has ls 13 [(0, .ref (rA G 0 0)), (1, .int v1), (7, .int r_12), (8, .int r_13), (9, .int s_17), (11, .int v11_26)] → k344 () = some (r, o9) → W p l e rmL_areReadingsSo s m args below meth c H1 L1 0 0 (Qm G (some (.int r)) o9 rmL_areReadingsSo below args s) (F0 m 344 ls [])) hf ?_ (fun k344 j344 hf => ?_)
            · intro  H1 L1 ls  P hl hf
              refine r_iconst C (v := 1) (by decide) dL_areReadingsSo_344 ?_
              refine r_goto C dL_areReadingsSo_345 ?_
              exact j349 ((1 : Int32)) _ _ _ P (lv_sub hl [0, 1, 2, 3, 4, 5] rfl) hf
            refine r_if_gt C dL_areReadingsSo_330 hf (fun hf => ?_) (fun hf => ?_)
            · exact j344  _ _ _ P (lv_sub hl [1, 2, 3, 4, 5, 7] rfl) hf
            · refine r_iload C hl 7 rfl dL_areReadingsSo_333 ?_
              refine r_sipush C (v := 10000) (by decide) dL_areReadingsSo_335 ?_
              refine r_iadd2 C dL_areReadingsSo_338 ?_
              refine r_iload C hl 4 rfl dL_areReadingsSo_339 ?_
              refine r_icmp_lt C dL_areReadingsSo_341 hf (fun hf => ?_) (fun hf => ?_)
              · exact j348  _ _ _ P (lv_sub hl [1, 2, 3, 4, 5, 7] rfl) hf
              · exact j344  _ _ _ P (lv_sub hl [1, 2, 3, 4, 5, 7] rfl) hf
set_option maxHeartbeats 4000000 in
set_option maxRecDepth 100000 in
theorem wL_areReadingsSo {G : Gd} {p : Program} {l : Launch} {e : Env} {s : State} {m : MethodId} {args : Array Value} {below : List Frame} {meth : Method} {c : Code} {o : OM} {H : Heap} {L0 : List Loc} {ls : Array Slot} {r : Int32} {o9 : OM} {v1 : Int32} {v2 : Int32} (C : Cx G RL cL_areReadingsSo 13 (some .boolean) p s m args meth c) (X : XW G s) (hl9 : l.stackTraces = false)  (P : Hp G o s H L0) (hl : lv_has ls 13 [(0, .ref (rA G 0 0)), (1, .int v1), (2, .int v2)]) (hf : F_L_areReadingsSo o v1 v2 = some (r, o9)) : W p l e rmL_areReadingsSo s m args below meth c H L0 0 0 (Qm G (some (.int r)) o9 rmL_areReadingsSo below args s) (F0 m 0 ls []) := by
  unfold F_L_areReadingsSo at hf
  refine r_iload_n C hl 2 rfl rfl dL_areReadingsSo_0 ?_
  refine r_sipush C (v := 2900) (by decide) dL_areReadingsSo_1 ?_
  refine r_qSi C P cf_L_43 (rm := rmL_low) [.int v2, .int ((2900 : Int32))] [] hf (fun _ h => ctL_low l G o v2 ((2900 : Int32)) h) ⟨rfl, rfl⟩ ⟨Nat.le_of_ble_eq_true rfl, Nat.le_of_ble_eq_true rfl⟩ ⟨Nat.le_of_ble_eq_true rfl, Nat.le_of_ble_eq_true rfl⟩ rfl rfl hl.1 (Nat.le_of_ble_eq_true rfl) dL_areReadingsSo_4 (fun r_1 H1 L1 P hf => ?_)
  refine r_sipush C (v := 999) (by decide) dL_areReadingsSo_7 ?_
  refine r_isub C dL_areReadingsSo_10 ?_
  refine r_bdi hf (fun v3_2 hf => ?_)
  refine r_istore_n C [(3, .int v3_2), (0, .ref (rA G 0 0)), (1, .int v1), (2, .int v2)] hl (by decide) rfl rfl dL_areReadingsSo_11 (fun ls hl => ?_)
  refine r_aload_n C hl 1 rfl rfl dL_areReadingsSo_12 ?_
  refine r_iload_n C hl 2 rfl rfl dL_areReadingsSo_13 ?_
  refine r_iload_n C hl 0 rfl rfl dL_areReadingsSo_14 ?_
  refine r_iconst C (v := 0) (by decide) dL_areReadingsSo_15 ?_
  refine m_cVi C X P cf_L_67 (rm := rmX5_corrected) rfl [.int v1, .int v3_2, .int ((0 : Int32))] [] hf (fun _ _ h => ctX5_corrected l G hl9 o v1 v3_2 ((0 : Int32)) h) ⟨Nat.le_of_ble_eq_true rfl, Nat.le_of_ble_eq_true rfl⟩ ⟨Nat.le_of_ble_eq_true rfl, Nat.le_of_ble_eq_true rfl⟩ rfl rfl hl.1 (Nat.le_of_ble_eq_true rfl) dL_areReadingsSo_16 (fun r_3 o_4 H1 L1 P hf => ?_)
  refine r_istore C [(4, .int r_3), (3, .int v3_2), (0, .ref (rA G 0 0)), (1, .int v1), (2, .int v2)] hl (by decide) rfl dL_areReadingsSo_19 (fun ls hl => ?_)
  refine r_aload_n C hl 2 rfl rfl dL_areReadingsSo_21 ?_
  refine r_iload_n C hl 3 rfl rfl dL_areReadingsSo_22 ?_
  refine r_iload_n C hl 1 rfl rfl dL_areReadingsSo_23 ?_
  refine r_iconst C (v := 1) (by decide) dL_areReadingsSo_24 ?_
  refine r_iadd2 C dL_areReadingsSo_25 ?_
  refine r_iload_n C hl 4 rfl rfl dL_areReadingsSo_26 ?_
  refine r_iconst C (v := 4) (by decide) dL_areReadingsSo_27 ?_
  refine r_ishr C dL_areReadingsSo_28 ?_
  refine r_bipush C (v := 90) (by decide) dL_areReadingsSo_29 ?_
  refine r_qSi C P cf_L_43 (rm := rmL_low) [.int (v2 >>> (((4 : Int32)) &&& 31)), .int ((90 : Int32))] [.int (v3_2 + ((1 : Int32))), .int v1, .ref (rA G 0 0)] hf (fun _ h => ctL_low l G o_4 (v2 >>> (((4 : Int32)) &&& 31)) ((90 : Int32)) h) ⟨rfl, rfl⟩ ⟨Nat.le_of_ble_eq_true rfl, Nat.le_of_ble_eq_true rfl⟩ ⟨Nat.le_of_ble_eq_true rfl, Nat.le_of_ble_eq_true rfl⟩ rfl rfl hl.1 (Nat.le_of_ble_eq_true rfl) dL_areReadingsSo_31 (fun r_5 H1 L1 P hf => ?_)
  refine r_iadd2 C dL_areReadingsSo_34 ?_
  refine r_iconst C (v := 1) (by decide) dL_areReadingsSo_35 ?_
  refine m_cVi C X P cf_L_67 (rm := rmX5_corrected) rfl [.int v1, .int ((v3_2 + ((1 : Int32))) + r_5), .int ((1 : Int32))] [] hf (fun _ _ h => ctX5_corrected l G hl9 o_4 v1 ((v3_2 + ((1 : Int32))) + r_5) ((1 : Int32)) h) ⟨Nat.le_of_ble_eq_true rfl, Nat.le_of_ble_eq_true rfl⟩ ⟨Nat.le_of_ble_eq_true rfl, Nat.le_of_ble_eq_true rfl⟩ rfl rfl hl.1 (Nat.le_of_ble_eq_true rfl) dL_areReadingsSo_36 (fun r_6 o_7 H1 L1 P hf => ?_)
  refine r_istore C [(5, .int r_6), (4, .int r_3), (3, .int v3_2), (0, .ref (rA G 0 0)), (1, .int v1), (2, .int v2)] hl (by decide) rfl dL_areReadingsSo_39 (fun ls hl => ?_)
  refine r_iload_n C hl 5 rfl rfl dL_areReadingsSo_41 ?_
  refine r_iconst C (v := 3) (by decide) dL_areReadingsSo_42 ?_
  refine r_ishr C dL_areReadingsSo_43 ?_
  refine r_sipush C (v := 1901) (by decide) dL_areReadingsSo_44 ?_
  refine r_qSi C P cf_L_43 (rm := rmL_low) [.int (v2 >>> (((3 : Int32)) &&& 31)), .int ((1901 : Int32))] [] hf (fun _ h => ctL_low l G o_7 (v2 >>> (((3 : Int32)) &&& 31)) ((1901 : Int32)) h) ⟨rfl, rfl⟩ ⟨Nat.le_of_ble_eq_true rfl, Nat.le_of_ble_eq_true rfl⟩ ⟨Nat.le_of_ble_eq_true rfl, Nat.le_of_ble_eq_true rfl⟩ rfl rfl hl.1 (Nat.le_of_ble_eq_true rfl) dL_areReadingsSo_47 (fun r_8 H1 L1 P hf => ?_)
  refine r_sipush C (v := 400) (by decide) dL_areReadingsSo_50 ?_
  refine r_isub C dL_areReadingsSo_53 ?_
  refine r_bdi hf (fun v6_9 hf => ?_)
  refine r_istore C [(6, .int v6_9), (5, .int r_6), (4, .int r_3), (3, .int v3_2), (0, .ref (rA G 0 0)), (1, .int v1), (2, .int v2)] hl (by decide) rfl dL_areReadingsSo_54 (fun ls hl => ?_)
  refine r_iload_n C hl 6 rfl rfl dL_areReadingsSo_56 ?_
  refine r_bipush C (v := 6) (by decide) dL_areReadingsSo_57 ?_
  refine r_ishr C dL_areReadingsSo_59 ?_
  refine r_aload_n C hl 4 rfl rfl dL_areReadingsSo_60 ?_
  refine r_iconst C (v := 1) (by decide) dL_areReadingsSo_61 ?_
  refine m_cVi C X P cf_L_48 (rm := rmX5_count) rfl [.int ((1 : Int32))] [.int (v2 >>> (((6 : Int32)) &&& 31))] hf (fun _ _ h => ctX5_count l G hl9 o_7 ((1 : Int32)) h) ⟨Nat.le_of_ble_eq_true rfl, Nat.le_of_ble_eq_true rfl⟩ ⟨Nat.le_of_ble_eq_true rfl, Nat.le_of_ble_eq_true rfl⟩ rfl rfl hl.1 (Nat.le_of_ble_eq_true rfl) dL_areReadingsSo_62 (fun r_10 o_11 H1 L1 P hf => ?_)
  refine r_qSi C P cf_L_43 (rm := rmL_low) [.int (v2 >>> (((6 : Int32)) &&& 31)), .int r_10] [] hf (fun _ h => ctL_low l G o_11 (v2 >>> (((6 : Int32)) &&& 31)) r_10 h) ⟨rfl, rfl⟩ ⟨Nat.le_of_ble_eq_true rfl, Nat.le_of_ble_eq_true rfl⟩ ⟨Nat.le_of_ble_eq_true rfl, Nat.le_of_ble_eq_true rfl⟩ rfl rfl hl.1 (Nat.le_of_ble_eq_true rfl) dL_areReadingsSo_65 (fun r_12 H1 L1 P hf => ?_)
  refine r_istore C [(7, .int r_12), (6, .int v6_9), (5, .int r_6), (4, .int r_3), (3, .int v3_2), (0, .ref (rA G 0 0)), (1, .int v1), (2, .int v2)] hl (by decide) rfl dL_areReadingsSo_68 (fun ls hl => ?_)
  refine r_aload_n C hl 5 rfl rfl dL_areReadingsSo_70 ?_
  refine r_iload_n C hl 6 rfl rfl dL_areReadingsSo_71 ?_
  refine r_iload C hl 0 rfl dL_areReadingsSo_72 ?_
  refine m_cVi C X P cf_L_71 (rm := rmX5_worstDegree) rfl [.int v1, .int r_12] [] hf (fun _ _ h => ctX5_worstDegree l G hl9 o_11 v1 r_12 h) ⟨Nat.le_of_ble_eq_true rfl, Nat.le_of_ble_eq_true rfl⟩ ⟨Nat.le_of_ble_eq_true rfl, Nat.le_of_ble_eq_true rfl⟩ rfl rfl hl.1 (Nat.le_of_ble_eq_true rfl) dL_areReadingsSo_74 (fun r_13 o_14 H1 L1 P hf => ?_)
  refine r_istore C [(8, .int r_13), (7, .int r_12), (6, .int v6_9), (5, .int r_6), (4, .int r_3), (3, .int v3_2), (0, .ref (rA G 0 0)), (1, .int v1), (2, .int v2)] hl (by decide) rfl dL_areReadingsSo_77 (fun ls hl => ?_)
  refine r_aload_n C hl 6 rfl rfl dL_areReadingsSo_79 ?_
  refine r_iload_n C hl 7 rfl rfl dL_areReadingsSo_80 ?_
  refine r_iconst C (v := 3) (by decide) dL_areReadingsSo_81 ?_
  refine m_cVi C X P cf_L_61 (rm := rmX5_thermometer) rfl [.int v1, .int ((3 : Int32))] [] hf (fun _ _ h => ctX5_thermometer l G hl9 o_14 v1 ((3 : Int32)) h) ⟨Nat.le_of_ble_eq_true rfl, Nat.le_of_ble_eq_true rfl⟩ ⟨Nat.le_of_ble_eq_true rfl, Nat.le_of_ble_eq_true rfl⟩ rfl rfl hl.1 (Nat.le_of_ble_eq_true rfl) dL_areReadingsSo_82 (fun r_15 o_16 H1 L1 P hf => ?_)
  refine r_iconst C (v := 2) (by decide) dL_areReadingsSo_85 ?_
  refine r_jn (fun k105 : OM → Int32 → Option (Int32 × OM) => ∀ (o_18 : OM) (s_17 : Int32) H1 L1 ls, Hp G o_18 s H1 L1 → lv_has ls 13 [(0, .ref (rA G 0 0)), (1, .int v1), (3, .int v3_2), (4, .int r_3), (5, .int r_6), (6, .int v6_9), (7, .int r_12), (8, .int r_13)] → k105 o_18 s_17 = some (r, o9) → W p l e rmL_areReadingsSo s m args below meth c H1 L1 0 0 (Qm G (some (.int r)) o9 rmL_areReadingsSo below args s) (F0 m 105 ls [.int s_17])) hf ?_ (fun k105 j105 hf => ?_)
  · intro o_18 s_17 H1 L1 ls  P hl hf
    refine r_istore C [(9, .int s_17), (0, .ref (rA G 0 0)), (1, .int v1), (3, .int v3_2), (4, .int r_3), (5, .int r_6), (6, .int v6_9), (7, .int r_12), (8, .int r_13)] hl (by decide) rfl dL_areReadingsSo_105 (fun ls hl => ?_)
    refine r_iload C hl 4 rfl dL_areReadingsSo_107 ?_
    refine r_aload_n C hl 1 rfl rfl dL_areReadingsSo_109 ?_
    refine r_iload_n C hl 2 rfl rfl dL_areReadingsSo_110 ?_
    refine r_iload_n C hl 3 rfl rfl dL_areReadingsSo_111 ?_
    refine r_iconst C (v := 1) (by decide) dL_areReadingsSo_112 ?_
    refine m_cVi C X P cf_L_67 (rm := rmX5_corrected) rfl [.int v1, .int v3_2, .int ((1 : Int32))] [.int r_3] hf (fun _ _ h => ctX5_corrected l G hl9 o_18 v1 v3_2 ((1 : Int32)) h) ⟨Nat.le_of_ble_eq_true rfl, Nat.le_of_ble_eq_true rfl⟩ ⟨Nat.le_of_ble_eq_true rfl, Nat.le_of_ble_eq_true rfl⟩ rfl rfl hl.1 (Nat.le_of_ble_eq_true rfl) dL_areReadingsSo_113 (fun r_19 o_20 H1 L1 P hf => ?_)
    refine r_jn (fun k273 : OM → Int32 → Option (Int32 × OM) => ∀ (o_22 : OM) (s_21 : Int32) H1 L1 ls, Hp G o_22 s H1 L1 → lv_has ls 13 [(0, .ref (rA G 0 0)), (1, .int v1), (7, .int r_12), (8, .int r_13), (9, .int s_17)] → k273 o_22 s_21 = some (r, o9) → W p l e rmL_areReadingsSo s m args below meth c H1 L1 0 0 (Qm G (some (.int r)) o9 rmL_areReadingsSo below args s) (F0 m 273 ls [.int s_21])) hf ?_ (fun k273 j273 hf => ?_)
    · intro o_22 s_21 H1 L1 ls  P hl hf
      refine r_istore C [(10, .int s_21), (0, .ref (rA G 0 0)), (1, .int v1), (7, .int r_12), (8, .int r_13), (9, .int s_17)] hl (by decide) rfl dL_areReadingsSo_273 (fun ls hl => ?_)
      refine r_sipush C (v := -400) (by decide) dL_areReadingsSo_275 ?_
      refine r_istore C [(11, .int ((-400 : Int32))), (10, .int s_21), (0, .ref (rA G 0 0)), (1, .int v1), (7, .int r_12), (8, .int r_13), (9, .int s_17)] hl (by decide) rfl dL_areReadingsSo_278 (fun ls hl => ?_)
      refine r_jn (fun k357 : OM → Int32 → Option (Int32 × OM) => ∀ (o_24 : OM) (v10_23 : Int32) H1 L1 ls, Hp G o_24 s H1 L1 → lv_has ls 13 [(10, .int v10_23)] → k357 o_24 v10_23 = some (r, o9) → W p l e rmL_areReadingsSo s m args below meth c H1 L1 0 0 (Qm G (some (.int r)) o9 rmL_areReadingsSo below args s) (F0 m 357 ls [])) hf ?_ (fun k357 j357 hf => ?_)
      · intro o_24 v10_23 H1 L1 ls  P hl hf
        refine r_iload C hl 0 rfl dL_areReadingsSo_357 ?_
        exact r_zret C P (rm := rmL_areReadingsSo) ⟨rfl, rfl⟩ dL_areReadingsSo_359 hf
      exact lL_areReadingsSo_280 C X hl9  j357 FU o_22 s_21 ((-400 : Int32)) _ _ _ P (lv_sub hl [2, 3, 4, 5, 6, 1, 0] rfl) hf
    refine r_jn (fun k272 : OM → Option (Int32 × OM) => ∀ (o_35 : OM) H1 L1 ls, Hp G o_35 s H1 L1 → lv_has ls 13 [(0, .ref (rA G 0 0)), (1, .int v1), (7, .int r_12), (8, .int r_13), (9, .int s_17)] → k272 o_35 = some (r, o9) → W p l e rmL_areReadingsSo s m args below meth c H1 L1 0 0 (Qm G (some (.int r)) o9 rmL_areReadingsSo below args s) (F0 m 272 ls [])) hf ?_ (fun k272 j272 hf => ?_)
    · intro o_35 H1 L1 ls  P hl hf
      refine r_iconst C (v := 0) (by decide) dL_areReadingsSo_272 ?_
      exact j273 o_35 ((0 : Int32)) _ _ _ P (lv_sub hl [0, 1, 2, 3, 4] rfl) hf
    refine r_icmp_ne C dL_areReadingsSo_116 hf (fun hf => ?_) (fun hf => ?_)
    · exact j272 o_20 _ _ _ P (lv_sub hl [1, 2, 7, 8, 0] rfl) hf
    · refine r_iload C hl 4 rfl dL_areReadingsSo_119 ?_
      refine r_iload C hl 5 rfl dL_areReadingsSo_121 ?_
      refine r_icmp_gt C dL_areReadingsSo_123 hf (fun hf => ?_) (fun hf => ?_)
      · exact j272 o_20 _ _ _ P (lv_sub hl [1, 2, 7, 8, 0] rfl) hf
      · refine r_aload_n C hl 1 rfl rfl dL_areReadingsSo_126 ?_
        refine r_iload_n C hl 2 rfl rfl dL_areReadingsSo_127 ?_
        refine r_iconst C (v := 3) (by decide) dL_areReadingsSo_128 ?_
        refine m_cVi C X P cf_L_61 (rm := rmX5_thermometer) rfl [.int v1, .int ((3 : Int32))] [] hf (fun _ _ h => ctX5_thermometer l G hl9 o_20 v1 ((3 : Int32)) h) ⟨Nat.le_of_ble_eq_true rfl, Nat.le_of_ble_eq_true rfl⟩ ⟨Nat.le_of_ble_eq_true rfl, Nat.le_of_ble_eq_true rfl⟩ rfl rfl hl.1 (Nat.le_of_ble_eq_true rfl) dL_areReadingsSo_129 (fun r_36 o_37 H1 L1 P hf => ?_)
        refine r_iconst C (v := 2) (by decide) dL_areReadingsSo_132 ?_
        refine r_jn (fun k141 : Int32 → Option (Int32 × OM) => ∀ (s_38 : Int32) H1 L1 ls, Hp G o_37 s H1 L1 → lv_has ls 13 [(0, .ref (rA G 0 0)), (1, .int v1), (4, .int r_3), (6, .int v6_9), (7, .int r_12), (8, .int r_13), (9, .int s_17)] → k141 s_38 = some (r, o9) → W p l e rmL_areReadingsSo s m args below meth c H1 L1 0 0 (Qm G (some (.int r)) o9 rmL_areReadingsSo below args s) (F0 m 141 ls [.int s_38])) hf ?_ (fun k141 j141 hf => ?_)
        · intro s_38 H1 L1 ls  P hl hf
          refine r_iload C hl 2 rfl dL_areReadingsSo_141 ?_
          refine r_iconst C (v := -1) (by decide) dL_areReadingsSo_143 ?_
          refine r_jn (fun k152 : Int32 → Option (Int32 × OM) => ∀ (s_39 : Int32) H1 L1 ls, Hp G o_37 s H1 L1 → lv_has ls 13 [(0, .ref (rA G 0 0)), (1, .int v1), (6, .int v6_9), (7, .int r_12), (8, .int r_13), (9, .int s_17)] → k152 s_39 = some (r, o9) → W p l e rmL_areReadingsSo s m args below meth c H1 L1 0 0 (Qm G (some (.int r)) o9 rmL_areReadingsSo below args s) (F0 m 152 ls [.int s_39, .int s_38])) hf ?_ (fun k152 j152 hf => ?_)
          · intro s_39 H1 L1 ls  P hl hf
            refine r_icmp_ne C dL_areReadingsSo_152 hf (fun hf => ?_) (fun hf => ?_)
            · exact j272 o_37 _ _ _ P (lv_sub hl [0, 1, 3, 4, 5] rfl) hf
            · refine r_aload_n C hl 0 rfl rfl dL_areReadingsSo_155 ?_
              refine r_iload_n C hl 1 rfl rfl dL_areReadingsSo_156 ?_
              refine r_iload C hl 3 rfl dL_areReadingsSo_157 ?_
              refine r_iload C hl 2 rfl dL_areReadingsSo_159 ?_
              refine m_cVi C X P cf_L_74 (rm := rmX5_overlap) rfl [.int v1, .int r_12, .int v6_9] [] hf (fun _ _ h => ctX5_overlap l G hl9 o_37 v1 r_12 v6_9 h) ⟨Nat.le_of_ble_eq_true rfl, Nat.le_of_ble_eq_true rfl⟩ ⟨Nat.le_of_ble_eq_true rfl, Nat.le_of_ble_eq_true rfl⟩ rfl rfl hl.1 (Nat.le_of_ble_eq_true rfl) dL_areReadingsSo_161 (fun r_40 o_41 H1 L1 P hf => ?_)
              refine r_aload_n C hl 0 rfl rfl dL_areReadingsSo_164 ?_
              refine r_iload C hl 3 rfl dL_areReadingsSo_165 ?_
              refine r_iload_n C hl 1 rfl rfl dL_areReadingsSo_167 ?_
              refine r_iload C hl 2 rfl dL_areReadingsSo_168 ?_
              refine m_cVi C X P cf_L_74 (rm := rmX5_overlap) rfl [.int r_12, .int v1, .int v6_9] [.int r_40] hf (fun _ _ h => ctX5_overlap l G hl9 o_41 r_12 v1 v6_9 h) ⟨Nat.le_of_ble_eq_true rfl, Nat.le_of_ble_eq_true rfl⟩ ⟨Nat.le_of_ble_eq_true rfl, Nat.le_of_ble_eq_true rfl⟩ rfl rfl hl.1 (Nat.le_of_ble_eq_true rfl) dL_areReadingsSo_170 (fun r_42 o_43 H1 L1 P hf => ?_)
              refine r_icmp_ne C dL_areReadingsSo_173 hf (fun hf => ?_) (fun hf => ?_)
              · exact j272 o_43 _ _ _ P (lv_sub hl [0, 1, 3, 4, 5] rfl) hf
              · refine r_aload_n C hl 0 rfl rfl dL_areReadingsSo_176 ?_
                refine r_iload_n C hl 1 rfl rfl dL_areReadingsSo_177 ?_
                refine r_iload C hl 3 rfl dL_areReadingsSo_178 ?_
                refine r_iload C hl 2 rfl dL_areReadingsSo_180 ?_
                refine m_cVi C X P cf_L_74 (rm := rmX5_overlap) rfl [.int v1, .int r_12, .int v6_9] [] hf (fun _ _ h => ctX5_overlap l G hl9 o_43 v1 r_12 v6_9 h) ⟨Nat.le_of_ble_eq_true rfl, Nat.le_of_ble_eq_true rfl⟩ ⟨Nat.le_of_ble_eq_true rfl, Nat.le_of_ble_eq_true rfl⟩ rfl rfl hl.1 (Nat.le_of_ble_eq_true rfl) dL_areReadingsSo_182 (fun r_44 o_45 H1 L1 P hf => ?_)
                refine r_iconst C (v := -1) (by decide) dL_areReadingsSo_185 ?_
                refine r_jn (fun k194 : Int32 → Option (Int32 × OM) => ∀ (s_46 : Int32) H1 L1 ls, Hp G o_45 s H1 L1 → lv_has ls 13 [(0, .ref (rA G 0 0)), (1, .int v1), (6, .int v6_9), (7, .int r_12), (8, .int r_13), (9, .int s_17)] → k194 s_46 = some (r, o9) → W p l e rmL_areReadingsSo s m args below meth c H1 L1 0 0 (Qm G (some (.int r)) o9 rmL_areReadingsSo below args s) (F0 m 194 ls [.int s_46])) hf ?_ (fun k194 j194 hf => ?_)
                · intro s_46 H1 L1 ls  P hl hf
                  refine r_iload C hl 5 rfl dL_areReadingsSo_194 ?_
                  refine r_icmp_ne C dL_areReadingsSo_196 hf (fun hf => ?_) (fun hf => ?_)
                  · exact j272 o_45 _ _ _ P (lv_sub hl [0, 1, 3, 4, 5] rfl) hf
                  · refine r_iload C hl 4 rfl dL_areReadingsSo_199 ?_
                    refine r_iconst C (v := -1) (by decide) dL_areReadingsSo_201 ?_
                    refine r_jn (fun k210 : Int32 → Option (Int32 × OM) => ∀ (s_47 : Int32) H1 L1 ls, Hp G o_45 s H1 L1 → lv_has ls 13 [(0, .ref (rA G 0 0)), (1, .int v1), (6, .int v6_9), (7, .int r_12), (8, .int r_13), (9, .int s_17)] → k210 s_47 = some (r, o9) → W p l e rmL_areReadingsSo s m args below meth c H1 L1 0 0 (Qm G (some (.int r)) o9 rmL_areReadingsSo below args s) (F0 m 210 ls [.int s_47])) hf ?_ (fun k210 j210 hf => ?_)
                    · intro s_47 H1 L1 ls  P hl hf
                      refine r_iload C hl 5 rfl dL_areReadingsSo_210 ?_
                      refine r_icmp_ne C dL_areReadingsSo_212 hf (fun hf => ?_) (fun hf => ?_)
                      · exact j272 o_45 _ _ _ P (lv_sub hl [0, 1, 3, 4, 5] rfl) hf
                      · refine r_aload_n C hl 0 rfl rfl dL_areReadingsSo_215 ?_
                        refine r_iload_n C hl 1 rfl rfl dL_areReadingsSo_216 ?_
                        refine r_iload_n C hl 1 rfl rfl dL_areReadingsSo_217 ?_
                        refine r_iload C hl 2 rfl dL_areReadingsSo_218 ?_
                        refine m_cVi C X P cf_L_74 (rm := rmX5_overlap) rfl [.int v1, .int v1, .int v6_9] [] hf (fun _ _ h => ctX5_overlap l G hl9 o_45 v1 v1 v6_9 h) ⟨Nat.le_of_ble_eq_true rfl, Nat.le_of_ble_eq_true rfl⟩ ⟨Nat.le_of_ble_eq_true rfl, Nat.le_of_ble_eq_true rfl⟩ rfl rfl hl.1 (Nat.le_of_ble_eq_true rfl) dL_areReadingsSo_220 (fun r_48 o_49 H1 L1 P hf => ?_)
                        refine r_aload_n C hl 0 rfl rfl dL_areReadingsSo_223 ?_
                        refine r_iload_n C hl 1 rfl rfl dL_areReadingsSo_224 ?_
                        refine r_iconst C (v := 3) (by decide) dL_areReadingsSo_225 ?_
                        refine m_cVi C X P cf_L_61 (rm := rmX5_thermometer) rfl [.int v1, .int ((3 : Int32))] [.int r_48] hf (fun _ _ h => ctX5_thermometer l G hl9 o_49 v1 ((3 : Int32)) h) ⟨Nat.le_of_ble_eq_true rfl, Nat.le_of_ble_eq_true rfl⟩ ⟨Nat.le_of_ble_eq_true rfl, Nat.le_of_ble_eq_true rfl⟩ rfl rfl hl.1 (Nat.le_of_ble_eq_true rfl) dL_areReadingsSo_226 (fun r_50 o_51 H1 L1 P hf => ?_)
                        refine r_iconst C (v := 2) (by decide) dL_areReadingsSo_229 ?_
                        refine r_jn (fun k238 : Int32 → Option (Int32 × OM) => ∀ (s_52 : Int32) H1 L1 ls, Hp G o_51 s H1 L1 → lv_has ls 13 [(0, .ref (rA G 0 0)), (1, .int v1), (6, .int v6_9), (7, .int r_12), (8, .int r_13), (9, .int s_17)] → k238 s_52 = some (r, o9) → W p l e rmL_areReadingsSo s m args below meth c H1 L1 0 0 (Qm G (some (.int r)) o9 rmL_areReadingsSo below args s) (F0 m 238 ls [.int s_52, .int r_48])) hf ?_ (fun k238 j238 hf => ?_)
                        · intro s_52 H1 L1 ls  P hl hf
                          refine r_icmp_ne C dL_areReadingsSo_238 hf (fun hf => ?_) (fun hf => ?_)
                          · exact j272 o_51 _ _ _ P (lv_sub hl [0, 1, 3, 4, 5] rfl) hf
                          · refine r_iload C hl 2 rfl dL_areReadingsSo_241 ?_
                            refine r_sipush C (v := 1500) (by decide) dL_areReadingsSo_243 ?_
                            refine r_jn (fun k268 : OM → Option (Int32 × OM) => ∀ (o_53 : OM) H1 L1 ls, Hp G o_53 s H1 L1 → lv_has ls 13 [(0, .ref (rA G 0 0)), (1, .int v1), (7, .int r_12), (8, .int r_13), (9, .int s_17)] → k268 o_53 = some (r, o9) → W p l e rmL_areReadingsSo s m args below meth c H1 L1 0 0 (Qm G (some (.int r)) o9 rmL_areReadingsSo below args s) (F0 m 268 ls [])) hf ?_ (fun k268 j268 hf => ?_)
                            · intro o_53 H1 L1 ls  P hl hf
                              refine r_iconst C (v := 1) (by decide) dL_areReadingsSo_268 ?_
                              refine r_goto C dL_areReadingsSo_269 ?_
                              exact j273 o_53 ((1 : Int32)) _ _ _ P (lv_sub hl [0, 1, 2, 3, 4] rfl) hf
                            refine r_icmp_eq C dL_areReadingsSo_246 hf (fun hf => ?_) (fun hf => ?_)
                            · exact j268 o_51 _ _ _ P (lv_sub hl [0, 1, 3, 4, 5] rfl) hf
                            · refine r_aload_n C hl 0 rfl rfl dL_areReadingsSo_249 ?_
                              refine r_iload_n C hl 1 rfl rfl dL_areReadingsSo_250 ?_
                              refine r_iload C hl 2 rfl dL_areReadingsSo_251 ?_
                              refine m_cVi C X P cf_L_77 (rm := rmX5_reads) rfl [.int v1, .int v6_9] [] hf (fun _ _ h => ctX5_reads l G hl9 o_51 v1 v6_9 h) ⟨Nat.le_of_ble_eq_true rfl, Nat.le_of_ble_eq_true rfl⟩ ⟨Nat.le_of_ble_eq_true rfl, Nat.le_of_ble_eq_true rfl⟩ rfl rfl hl.1 (Nat.le_of_ble_eq_true rfl) dL_areReadingsSo_253 (fun r_54 o_55 H1 L1 P hf => ?_)
                              refine r_aload_n C hl 0 rfl rfl dL_areReadingsSo_256 ?_
                              refine r_iload_n C hl 1 rfl rfl dL_areReadingsSo_257 ?_
                              refine r_iload C hl 2 rfl dL_areReadingsSo_258 ?_
                              refine r_iconst C (v := 1) (by decide) dL_areReadingsSo_260 ?_
                              refine r_iadd2 C dL_areReadingsSo_261 ?_
                              refine m_cVi C X P cf_L_77 (rm := rmX5_reads) rfl [.int v1, .int (v6_9 + ((1 : Int32)))] [.int r_54] hf (fun _ _ h => ctX5_reads l G hl9 o_55 v1 (v6_9 + ((1 : Int32))) h) ⟨Nat.le_of_ble_eq_true rfl, Nat.le_of_ble_eq_true rfl⟩ ⟨Nat.le_of_ble_eq_true rfl, Nat.le_of_ble_eq_true rfl⟩ rfl rfl hl.1 (Nat.le_of_ble_eq_true rfl) dL_areReadingsSo_262 (fun r_56 o_57 H1 L1 P hf => ?_)
                              refine r_icmp_gt C dL_areReadingsSo_265 hf (fun hf => ?_) (fun hf => ?_)
                              · exact j272 o_57 _ _ _ P (lv_sub hl [0, 1, 3, 4, 5] rfl) hf
                              · exact j268 o_57 _ _ _ P (lv_sub hl [0, 1, 3, 4, 5] rfl) hf
                        refine r_icmp_ge C dL_areReadingsSo_230 hf (fun hf => ?_) (fun hf => ?_)
                        · refine r_iconst C (v := 0) (by decide) dL_areReadingsSo_237 ?_
                          exact j238 ((0 : Int32)) _ _ _ P (lv_sub hl [0, 1, 2, 3, 4, 5] rfl) hf
                        · refine r_iconst C (v := -1) (by decide) dL_areReadingsSo_233 ?_
                          refine r_goto C dL_areReadingsSo_234 ?_
                          exact j238 ((-1 : Int32)) _ _ _ P (lv_sub hl [0, 1, 2, 3, 4, 5] rfl) hf
                    refine r_icmp_ne C dL_areReadingsSo_202 hf (fun hf => ?_) (fun hf => ?_)
                    · refine r_iconst C (v := 0) (by decide) dL_areReadingsSo_209 ?_
                      exact j210 ((0 : Int32)) _ _ _ P (lv_sub hl [0, 1, 2, 3, 4, 5] rfl) hf
                    · refine r_iconst C (v := 1) (by decide) dL_areReadingsSo_205 ?_
                      refine r_goto C dL_areReadingsSo_206 ?_
                      exact j210 ((1 : Int32)) _ _ _ P (lv_sub hl [0, 1, 2, 3, 4, 5] rfl) hf
                refine r_icmp_ne C dL_areReadingsSo_186 hf (fun hf => ?_) (fun hf => ?_)
                · refine r_iconst C (v := 0) (by decide) dL_areReadingsSo_193 ?_
                  exact j194 ((0 : Int32)) _ _ _ P (lv_sub hl [0, 1, 2, 3, 4, 5] rfl) hf
                · refine r_iconst C (v := 1) (by decide) dL_areReadingsSo_189 ?_
                  refine r_goto C dL_areReadingsSo_190 ?_
                  exact j194 ((1 : Int32)) _ _ _ P (lv_sub hl [0, 1, 2, 3, 4, 5] rfl) hf
          refine r_icmp_ne C dL_areReadingsSo_144 hf (fun hf => ?_) (fun hf => ?_)
          · refine r_iconst C (v := 0) (by decide) dL_areReadingsSo_151 ?_
            exact j152 ((0 : Int32)) _ _ _ P (lv_sub hl [0, 1, 3, 4, 5, 6] rfl) hf
          · refine r_iconst C (v := 1) (by decide) dL_areReadingsSo_147 ?_
            refine r_goto C dL_areReadingsSo_148 ?_
            exact j152 ((1 : Int32)) _ _ _ P (lv_sub hl [0, 1, 3, 4, 5, 6] rfl) hf
        refine r_icmp_ge C dL_areReadingsSo_133 hf (fun hf => ?_) (fun hf => ?_)
        · refine r_iconst C (v := 0) (by decide) dL_areReadingsSo_140 ?_
          exact j141 ((0 : Int32)) _ _ _ P (lv_sub hl [1, 2, 4, 6, 7, 8, 0] rfl) hf
        · refine r_iconst C (v := 1) (by decide) dL_areReadingsSo_136 ?_
          refine r_goto C dL_areReadingsSo_137 ?_
          exact j141 ((1 : Int32)) _ _ _ P (lv_sub hl [1, 2, 4, 6, 7, 8, 0] rfl) hf
  refine r_jn (fun k100 : OM → Option (Int32 × OM) => ∀ (o_58 : OM) H1 L1 ls, Hp G o_58 s H1 L1 → lv_has ls 13 [(0, .ref (rA G 0 0)), (1, .int v1), (3, .int v3_2), (4, .int r_3), (5, .int r_6), (6, .int v6_9), (7, .int r_12), (8, .int r_13)] → k100 o_58 = some (r, o9) → W p l e rmL_areReadingsSo s m args below meth c H1 L1 0 0 (Qm G (some (.int r)) o9 rmL_areReadingsSo below args s) (F0 m 100 ls [])) hf ?_ (fun k100 j100 hf => ?_)
  · intro o_58 H1 L1 ls  P hl hf
    refine r_iconst C (v := 1) (by decide) dL_areReadingsSo_100 ?_
    refine r_goto C dL_areReadingsSo_101 ?_
    exact j105 o_58 ((1 : Int32)) _ _ _ P (lv_sub hl [0, 1, 2, 3, 4, 5, 6, 7] rfl) hf
  refine r_icmp_lt C dL_areReadingsSo_86 hf (fun hf => ?_) (fun hf => ?_)
  · exact j100 o_16 _ _ _ P (lv_sub hl [6, 7, 5, 4, 3, 2, 1, 0] rfl) hf
  · refine r_aload_n C hl 6 rfl rfl dL_areReadingsSo_89 ?_
    refine r_iload C hl 1 rfl dL_areReadingsSo_90 ?_
    refine r_iconst C (v := 3) (by decide) dL_areReadingsSo_92 ?_
    refine m_cVi C X P cf_L_61 (rm := rmX5_thermometer) rfl [.int r_12, .int ((3 : Int32))] [] hf (fun _ _ h => ctX5_thermometer l G hl9 o_16 r_12 ((3 : Int32)) h) ⟨Nat.le_of_ble_eq_true rfl, Nat.le_of_ble_eq_true rfl⟩ ⟨Nat.le_of_ble_eq_true rfl, Nat.le_of_ble_eq_true rfl⟩ rfl rfl hl.1 (Nat.le_of_ble_eq_true rfl) dL_areReadingsSo_93 (fun r_59 o_60 H1 L1 P hf => ?_)
    refine r_iconst C (v := 2) (by decide) dL_areReadingsSo_96 ?_
    refine r_icmp_ge C dL_areReadingsSo_97 hf (fun hf => ?_) (fun hf => ?_)
    · refine r_iconst C (v := 0) (by decide) dL_areReadingsSo_104 ?_
      exact j105 o_60 ((0 : Int32)) _ _ _ P (lv_sub hl [6, 7, 5, 4, 3, 2, 1, 0] rfl) hf
    · exact j100 o_60 _ _ _ P (lv_sub hl [6, 7, 5, 4, 3, 2, 1, 0] rfl) hf
theorem ctL_areReadingsSo (l : Launch) (G : Gd) (hl9 : l.stackTraces = false) (o : OM) (v1 : Int32) (v2 : Int32)  {r : Int32} {o9 : OM} (hf : F_L_areReadingsSo o v1 v2 = some (r, o9)) : Ctm l yL_areReadingsSo cL_areReadingsSo 13 (some .boolean) rmL_areReadingsSo G [.ref (rA G 0 0), .int v1, .int v2] o (some (.int r)) o9 := ctm_of (by decide +kernel) (Nat.le_of_ble_eq_true rfl) (fun p e s m below meth c ls C X P hl => wL_areReadingsSo C X hl9  P hl hf)
