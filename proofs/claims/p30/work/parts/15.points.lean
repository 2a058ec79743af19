theorem cf_L_64 : CallF false RL 64 yX5_point cX5_point 6 (some .int) 3 := ⟨wd_587, (by rw [if_neg (by decide)]; exact ⟨wd_588, wd_589⟩), wd_10, wd_590, by decide, by decide +kernel⟩
theorem cf_L_67 : CallF false RL 67 yX5_corrected cX5_corrected 5 (some .int) 3 := ⟨wd_596, (by rw [if_neg (by decide)]; exact ⟨wd_597, wd_598⟩), wd_10, wd_599, by decide, by decide +kernel⟩
theorem dL_arePointsSo_0 : Dc cL_arePointsSo 0 (.aload_n 0) 1 1 := ⟨by decide +kernel, rfl⟩
theorem dL_arePointsSo_1 : Dc cL_arePointsSo 1 (.iload_n 1) 1 2 := ⟨by decide +kernel, rfl⟩
theorem dL_arePointsSo_2 : Dc cL_arePointsSo 2 (.iconst 3) 1 3 := ⟨by decide +kernel, rfl⟩
theorem dL_arePointsSo_3 : Dc cL_arePointsSo 3 (.invokevirtual 61) 3 6 := ⟨by decide +kernel, rfl⟩
theorem dL_arePointsSo_6 : Dc cL_arePointsSo 6 (.istore_n 2) 1 7 := ⟨by decide +kernel, rfl⟩
theorem dL_arePointsSo_7 : Dc cL_arePointsSo 7 (.iconst 0) 1 8 := ⟨by decide +kernel, rfl⟩
theorem dL_arePointsSo_8 : Dc cL_arePointsSo 8 (.istore_n 3) 1 9 := ⟨by decide +kernel, rfl⟩
theorem dL_arePointsSo_9 : Dc cL_arePointsSo 9 (.iconst 0) 1 10 := ⟨by decide +kernel, rfl⟩
theorem dL_arePointsSo_10 : Dc cL_arePointsSo 10 (.istore 4) 2 12 := ⟨by decide +kernel, rfl⟩
theorem dL_arePointsSo_12 : Dc cL_arePointsSo 12 (.iconst 0) 1 13 := ⟨by decide +kernel, rfl⟩
theorem dL_arePointsSo_13 : Dc cL_arePointsSo 13 (.istore 5) 2 15 := ⟨by decide +kernel, rfl⟩
theorem dL_arePointsSo_15 : Dc cL_arePointsSo 15 (.iconst 0) 1 16 := ⟨by decide +kernel, rfl⟩
theorem dL_arePointsSo_16 : Dc cL_arePointsSo 16 (.istore 6) 2 18 := ⟨by decide +kernel, rfl⟩
theorem dL_arePointsSo_18 : Dc cL_arePointsSo 18 (.iload_n 2) 1 19 := ⟨by decide +kernel, rfl⟩
theorem dL_arePointsSo_19 : Dj cL_arePointsSo 19 (.ifCond .lt 24) 3 22 (24) 43 := ⟨by decide +kernel, rfl, by decide⟩
theorem dL_arePointsSo_22 : Dc cL_arePointsSo 22 (.iload_n 2) 1 23 := ⟨by decide +kernel, rfl⟩
theorem dL_arePointsSo_23 : Dc cL_arePointsSo 23 (.bipush 10) 2 25 := ⟨by decide +kernel, rfl⟩
theorem dL_arePointsSo_25 : Dj cL_arePointsSo 25 (.if_icmp .gt 18) 3 28 (18) 43 := ⟨by decide +kernel, rfl, by decide⟩
theorem dL_arePointsSo_28 : Dc cL_arePointsSo 28 (.aload_n 0) 1 29 := ⟨by decide +kernel, rfl⟩
theorem dL_arePointsSo_29 : Dc cL_arePointsSo 29 (.iload_n 1) 1 30 := ⟨by decide +kernel, rfl⟩
theorem dL_arePointsSo_30 : Dc cL_arePointsSo 30 (.iload_n 2) 1 31 := ⟨by decide +kernel, rfl⟩
theorem dL_arePointsSo_31 : Dc cL_arePointsSo 31 (.iconst 1) 1 32 := ⟨by decide +kernel, rfl⟩
theorem dL_arePointsSo_32 : Dc cL_arePointsSo 32 (.invokevirtual 64) 3 35 := ⟨by decide +kernel, rfl⟩
theorem dL_arePointsSo_35 : Dc cL_arePointsSo 35 (.iconst (-1)) 1 36 := ⟨by decide +kernel, rfl⟩
theorem dL_arePointsSo_36 : Dj cL_arePointsSo 36 (.if_icmp .ne 7) 3 39 (7) 43 := ⟨by decide +kernel, rfl, by decide⟩
theorem dL_arePointsSo_39 : Dc cL_arePointsSo 39 (.iconst 1) 1 40 := ⟨by decide +kernel, rfl⟩
theorem dL_arePointsSo_40 : Dj cL_arePointsSo 40 (.goto 4) 3 43 (4) 44 := ⟨by decide +kernel, rfl, by decide⟩
theorem dL_arePointsSo_43 : Dc cL_arePointsSo 43 (.iconst 0) 1 44 := ⟨by decide +kernel, rfl⟩
theorem dL_arePointsSo_44 : Dc cL_arePointsSo 44 (.istore 7) 2 46 := ⟨by decide +kernel, rfl⟩
theorem dL_arePointsSo_46 : Dc cL_arePointsSo 46 (.iconst 0) 1 47 := ⟨by decide +kernel, rfl⟩
theorem dL_arePointsSo_47 : Dc cL_arePointsSo 47 (.istore 8) 2 49 := ⟨by decide +kernel, rfl⟩
theorem dL_arePointsSo_49 : Dc cL_arePointsSo 49 (.iload 8) 2 51 := ⟨by decide +kernel, rfl⟩
theorem dL_arePointsSo_51 : Dc cL_arePointsSo 51 (.iload_n 2) 1 52 := ⟨by decide +kernel, rfl⟩
theorem dL_arePointsSo_52 : Dj cL_arePointsSo 52 (.if_icmp .ge 277) 3 55 (277) 329 := ⟨by decide +kernel, rfl, by decide⟩
theorem dL_arePointsSo_55 : Dc cL_arePointsSo 55 (.aload_n 0) 1 56 := ⟨by decide +kernel, rfl⟩
theorem dL_arePointsSo_56 : Dc cL_arePointsSo 56 (.iload_n 1) 1 57 := ⟨by decide +kernel, rfl⟩
theorem dL_arePointsSo_57 : Dc cL_arePointsSo 57 (.iload 8) 2 59 := ⟨by decide +kernel, rfl⟩
theorem dL_arePointsSo_59 : Dc cL_arePointsSo 59 (.iconst 1) 1 60 := ⟨by decide +kernel, rfl⟩
theorem dL_arePointsSo_60 : Dc cL_arePointsSo 60 (.invokevirtual 64) 3 63 := ⟨by decide +kernel, rfl⟩
theorem dL_arePointsSo_63 : Dc cL_arePointsSo 63 (.istore 9) 2 65 := ⟨by decide +kernel, rfl⟩
theorem dL_arePointsSo_65 : Dc cL_arePointsSo 65 (.aload_n 0) 1 66 := ⟨by decide +kernel, rfl⟩
theorem dL_arePointsSo_66 : Dc cL_arePointsSo 66 (.iload_n 1) 1 67 := ⟨by decide +kernel, rfl⟩
theorem dL_arePointsSo_67 : Dc cL_arePointsSo 67 (.iload 8) 2 69 := ⟨by decide +kernel, rfl⟩
theorem dL_arePointsSo_69 : Dc cL_arePointsSo 69 (.iconst 3) 1 70 := ⟨by decide +kernel, rfl⟩
theorem dL_arePointsSo_70 : Dc cL_arePointsSo 70 (.invokevirtual 64) 3 73 := ⟨by decide +kernel, rfl⟩
theorem dL_arePointsSo_73 : Dc cL_arePointsSo 73 (.istore 10) 2 75 := ⟨by decide +kernel, rfl⟩
theorem dL_arePointsSo_75 : Dc cL_arePointsSo 75 (.iload 8) 2 77 := ⟨by decide +kernel, rfl⟩
theorem dL_arePointsSo_77 : Dj cL_arePointsSo 77 (.ifCond .le 93) 3 80 (93) 170 := ⟨by decide +kernel, rfl, by decide⟩
theorem dL_arePointsSo_80 : Dc cL_arePointsSo 80 (.aload_n 0) 1 81 := ⟨by decide +kernel, rfl⟩
theorem dL_arePointsSo_81 : Dc cL_arePointsSo 81 (.iload_n 1) 1 82 := ⟨by decide +kernel, rfl⟩
theorem dL_arePointsSo_82 : Dc cL_arePointsSo 82 (.iload 8) 2 84 := ⟨by decide +kernel, rfl⟩
theorem dL_arePointsSo_84 : Dc cL_arePointsSo 84 (.iconst 1) 1 85 := ⟨by decide +kernel, rfl⟩
theorem dL_arePointsSo_85 : Dc cL_arePointsSo 85 (.isub) 1 86 := ⟨by decide +kernel, rfl⟩
theorem dL_arePointsSo_86 : Dc cL_arePointsSo 86 (.iconst 1) 1 87 := ⟨by decide +kernel, rfl⟩
theorem dL_arePointsSo_87 : Dc cL_arePointsSo 87 (.invokevirtual 64) 3 90 := ⟨by decide +kernel, rfl⟩
theorem dL_arePointsSo_90 : Dc cL_arePointsSo 90 (.istore 11) 2 92 := ⟨by decide +kernel, rfl⟩
theorem dL_arePointsSo_92 : Dc cL_arePointsSo 92 (.aload_n 0) 1 93 := ⟨by decide +kernel, rfl⟩
theorem dL_arePointsSo_93 : Dc cL_arePointsSo 93 (.iload_n 1) 1 94 := ⟨by decide +kernel, rfl⟩
theorem dL_arePointsSo_94 : Dc cL_arePointsSo 94 (.iload 8) 2 96 := ⟨by decide +kernel, rfl⟩
theorem dL_arePointsSo_96 : Dc cL_arePointsSo 96 (.iconst 1) 1 97 := ⟨by decide +kernel, rfl⟩
theorem dL_arePointsSo_97 : Dc cL_arePointsSo 97 (.isub) 1 98 := ⟨by decide +kernel, rfl⟩
theorem dL_arePointsSo_98 : Dc cL_arePointsSo 98 (.iconst 3) 1 99 := ⟨by decide +kernel, rfl⟩
theorem dL_arePointsSo_99 : Dc cL_arePointsSo 99 (.invokevirtual 64) 3 102 := ⟨by decide +kernel, rfl⟩
theorem dL_arePointsSo_102 : Dc cL_arePointsSo 102 (.istore 12) 2 104 := ⟨by decide +kernel, rfl⟩
theorem dL_arePointsSo_104 : Dc cL_arePointsSo 104 (.iload 9) 2 106 := ⟨by decide +kernel, rfl⟩
theorem dL_arePointsSo_106 : Dc cL_arePointsSo 106 (.iload 11) 2 108 := ⟨by decide +kernel, rfl⟩
theorem dL_arePointsSo_108 : Dc cL_arePointsSo 108 (.isub) 1 109 := ⟨by decide +kernel, rfl⟩
theorem dL_arePointsSo_109 : Dc cL_arePointsSo 109 (.iload_n 3) 1 110 := ⟨by decide +kernel, rfl⟩
theorem dL_arePointsSo_110 : Dj cL_arePointsSo 110 (.if_icmp .le 11) 3 113 (11) 121 := ⟨by decide +kernel, rfl, by decide⟩
theorem dL_arePointsSo_113 : Dc cL_arePointsSo 113 (.iload 9) 2 115 := ⟨by decide +kernel, rfl⟩
theorem dL_arePointsSo_115 : Dc cL_arePointsSo 115 (.iload 11) 2 117 := ⟨by decide +kernel, rfl⟩
theorem dL_arePointsSo_117 : Dc cL_arePointsSo 117 (.isub) 1 118 := ⟨by decide +kernel, rfl⟩
theorem dL_arePointsSo_118 : Dj cL_arePointsSo 118 (.goto 4) 3 121 (4) 122 := ⟨by decide +kernel, rfl, by decide⟩
theorem dL_arePointsSo_121 : Dc cL_arePointsSo 121 (.iload_n 3) 1 122 := ⟨by decide +kernel, rfl⟩
theorem dL_arePointsSo_122 : Dc cL_arePointsSo 122 (.istore_n 3) 1 123 := ⟨by decide +kernel, rfl⟩
theorem dL_arePointsSo_123 : Dc cL_arePointsSo 123 (.iload 7) 2 125 := ⟨by decide +kernel, rfl⟩
theorem dL_arePointsSo_125 : Dj cL_arePointsSo 125 (.ifCond .eq 42) 3 128 (42) 167 := ⟨by decide +kernel, rfl, by decide⟩
theorem dL_arePointsSo_128 : Dc cL_arePointsSo 128 (.aload_n 0) 1 129 := ⟨by decide +kernel, rfl⟩
theorem dL_arePointsSo_129 : Dc cL_arePointsSo 129 (.iload_n 1) 1 130 := ⟨by decide +kernel, rfl⟩
theorem dL_arePointsSo_130 : Dc cL_arePointsSo 130 (.iload 8) 2 132 := ⟨by decide +kernel, rfl⟩
theorem dL_arePointsSo_132 : Dc cL_arePointsSo 132 (.iconst 0) 1 133 := ⟨by decide +kernel, rfl⟩
theorem dL_arePointsSo_133 : Dc cL_arePointsSo 133 (.invokevirtual 64) 3 136 := ⟨by decide +kernel, rfl⟩
theorem dL_arePointsSo_136 : Dc cL_arePointsSo 136 (.aload_n 0) 1 137 := ⟨by decide +kernel, rfl⟩
theorem dL_arePointsSo_137 : Dc cL_arePointsSo 137 (.iload_n 1) 1 138 := ⟨by decide +kernel, rfl⟩
theorem dL_arePointsSo_138 : Dc cL_arePointsSo 138 (.iload 8) 2 140 := ⟨by decide +kernel, rfl⟩
theorem dL_arePointsSo_140 : Dc cL_arePointsSo 140 (.iconst 1) 1 141 := ⟨by decide +kernel, rfl⟩
theorem dL_arePointsSo_141 : Dc cL_arePointsSo 141 (.isub) 1 142 := ⟨by decide +kernel, rfl⟩
theorem dL_arePointsSo_142 : Dc cL_arePointsSo 142 (.iconst 0) 1 143 := ⟨by decide +kernel, rfl⟩
theorem dL_arePointsSo_143 : Dc cL_arePointsSo 143 (.invokevirtual 64) 3 146 := ⟨by decide +kernel, rfl⟩
theorem dL_arePointsSo_146 : Dj cL_arePointsSo 146 (.if_icmp .le 21) 3 149 (21) 167 := ⟨by decide +kernel, rfl, by decide⟩
theorem dL_arePointsSo_149 : Dc cL_arePointsSo 149 (.iload 9) 2 151 := ⟨by decide +kernel, rfl⟩
theorem dL_arePointsSo_151 : Dc cL_arePointsSo 151 (.iload 11) 2 153 := ⟨by decide +kernel, rfl⟩
theorem dL_arePointsSo_153 : Dj cL_arePointsSo 153 (.if_icmp .le 14) 3 156 (14) 167 := ⟨by decide +kernel, rfl, by decide⟩
theorem dL_arePointsSo_156 : Dc cL_arePointsSo 156 (.iload 10) 2 158 := ⟨by decide +kernel, rfl⟩
theorem dL_arePointsSo_158 : Dc cL_arePointsSo 158 (.iload 12) 2 160 := ⟨by decide +kernel, rfl⟩
theorem dL_arePointsSo_160 : Dj cL_arePointsSo 160 (.if_icmp .eq 7) 3 163 (7) 167 := ⟨by decide +kernel, rfl, by decide⟩
theorem dL_arePointsSo_163 : Dc cL_arePointsSo 163 (.iconst 1) 1 164 := ⟨by decide +kernel, rfl⟩
theorem dL_arePointsSo_164 : Dj cL_arePointsSo 164 (.goto 4) 3 167 (4) 168 := ⟨by decide +kernel, rfl, by decide⟩
theorem dL_arePointsSo_167 : Dc cL_arePointsSo 167 (.iconst 0) 1 168 := ⟨by decide +kernel, rfl⟩
theorem dL_arePointsSo_168 : Dc cL_arePointsSo 168 (.istore 7) 2 170 := ⟨by decide +kernel, rfl⟩
theorem dL_arePointsSo_170 : Dc cL_arePointsSo 170 (.iload 10) 2 172 := ⟨by decide +kernel, rfl⟩
theorem dL_arePointsSo_172 : Dc cL_arePointsSo 172 (.iload 4) 2 174 := ⟨by decide +kernel, rfl⟩
theorem dL_arePointsSo_174 : Dj cL_arePointsSo 174 (.if_icmp .le 8) 3 177 (8) 182 := ⟨by decide +kernel, rfl, by decide⟩
theorem dL_arePointsSo_177 : Dc cL_arePointsSo 177 (.iload 10) 2 179 := ⟨by decide +kernel, rfl⟩
theorem dL_arePointsSo_179 : Dj cL_arePointsSo 179 (.goto 5) 3 182 (5) 184 := ⟨by decide +kernel, rfl, by decide⟩
theorem dL_arePointsSo_182 : Dc cL_arePointsSo 182 (.iload 4) 2 184 := ⟨by decide +kernel, rfl⟩
theorem dL_arePointsSo_184 : Dc cL_arePointsSo 184 (.istore 4) 2 186 := ⟨by decide +kernel, rfl⟩
theorem dL_arePointsSo_186 : Dc cL_arePointsSo 186 (.iload 5) 2 188 := ⟨by decide +kernel, rfl⟩
theorem dL_arePointsSo_188 : Dc cL_arePointsSo 188 (.iload 10) 2 190 := ⟨by decide +kernel, rfl⟩
theorem dL_arePointsSo_190 : Dc cL_arePointsSo 190 (.iconst 1) 1 191 := ⟨by decide +kernel, rfl⟩
theorem dL_arePointsSo_191 : Dj cL_arePointsSo 191 (.if_icmp .ne 7) 3 194 (7) 198 := ⟨by decide +kernel, rfl, by decide⟩
theorem dL_arePointsSo_194 : Dc cL_arePointsSo 194 (.iconst 1) 1 195 := ⟨by decide +kernel, rfl⟩
theorem dL_arePointsSo_195 : Dj cL_arePointsSo 195 (.goto 4) 3 198 (4) 199 := ⟨by decide +kernel, rfl, by decide⟩
theorem dL_arePointsSo_198 : Dc cL_arePointsSo 198 (.iconst 0) 1 199 := ⟨by decide +kernel, rfl⟩
theorem dL_arePointsSo_199 : Dc cL_arePointsSo 199 (.iadd) 1 200 := ⟨by decide +kernel, rfl⟩
theorem dL_arePointsSo_200 : Dc cL_arePointsSo 200 (.istore 5) 2 202 := ⟨by decide +kernel, rfl⟩
theorem dL_arePointsSo_202 : Dc cL_arePointsSo 202 (.iload 6) 2 204 := ⟨by decide +kernel, rfl⟩
theorem dL_arePointsSo_204 : Dc cL_arePointsSo 204 (.iconst 1) 1 205 := ⟨by decide +kernel, rfl⟩
theorem dL_arePointsSo_205 : Dc cL_arePointsSo 205 (.iload 10) 2 207 := ⟨by decide +kernel, rfl⟩
theorem dL_arePointsSo_207 : Dc cL_arePointsSo 207 (.ishl) 1 208 := ⟨by decide +kernel, rfl⟩
theorem dL_arePointsSo_208 : Dc cL_arePointsSo 208 (.ior) 1 209 := ⟨by decide +kernel, rfl⟩
theorem dL_arePointsSo_209 : Dc cL_arePointsSo 209 (.istore 6) 2 211 := ⟨by decide +kernel, rfl⟩
theorem dL_arePointsSo_211 : Dc cL_arePointsSo 211 (.iload 7) 2 213 := ⟨by decide +kernel, rfl⟩
theorem dL_arePointsSo_213 : Dj cL_arePointsSo 213 (.ifCond .eq 107) 3 216 (107) 320 := ⟨by decide +kernel, rfl, by decide⟩
theorem dL_arePointsSo_216 : Dc cL_arePointsSo 216 (.iload 10) 2 218 := ⟨by decide +kernel, rfl⟩
theorem dL_arePointsSo_218 : Dj cL_arePointsSo 218 (.ifCond .le 102) 3 221 (102) 320 := ⟨by decide +kernel, rfl, by decide⟩
theorem dL_arePointsSo_221 : Dc cL_arePointsSo 221 (.iload 10) 2 223 := ⟨by decide +kernel, rfl⟩
theorem dL_arePointsSo_223 : Dc cL_arePointsSo 223 (.iload_n 2) 1 224 := ⟨by decide +kernel, rfl⟩
theorem dL_arePointsSo_224 : Dj cL_arePointsSo 224 (.if_icmp .gt 96) 3 227 (96) 320 := ⟨by decide +kernel, rfl, by decide⟩
theorem dL_arePointsSo_227 : Dc cL_arePointsSo 227 (.aload_n 0) 1 228 := ⟨by decide +kernel, rfl⟩
theorem dL_arePointsSo_228 : Dc cL_arePointsSo 228 (.iload_n 1) 1 229 := ⟨by decide +kernel, rfl⟩
theorem dL_arePointsSo_229 : Dc cL_arePointsSo 229 (.iload 8) 2 231 := ⟨by decide +kernel, rfl⟩
theorem dL_arePointsSo_231 : Dc cL_arePointsSo 231 (.iconst 2) 1 232 := ⟨by decide +kernel, rfl⟩
theorem dL_arePointsSo_232 : Dc cL_arePointsSo 232 (.invokevirtual 64) 3 235 := ⟨by decide +kernel, rfl⟩
theorem dL_arePointsSo_235 : Dc cL_arePointsSo 235 (.aload_n 0) 1 236 := ⟨by decide +kernel, rfl⟩
theorem dL_arePointsSo_236 : Dc cL_arePointsSo 236 (.iconst 0) 1 237 := ⟨by decide +kernel, rfl⟩
theorem dL_arePointsSo_237 : Dc cL_arePointsSo 237 (.invokevirtual 48) 3 240 := ⟨by decide +kernel, rfl⟩
theorem dL_arePointsSo_240 : Dj cL_arePointsSo 240 (.if_icmp .gt 80) 3 243 (80) 320 := ⟨by decide +kernel, rfl, by decide⟩
theorem dL_arePointsSo_243 : Dc cL_arePointsSo 243 (.aload_n 0) 1 244 := ⟨by decide +kernel, rfl⟩
theorem dL_arePointsSo_244 : Dc cL_arePointsSo 244 (.iload_n 1) 1 245 := ⟨by decide +kernel, rfl⟩
theorem dL_arePointsSo_245 : Dc cL_arePointsSo 245 (.iload 8) 2 247 := ⟨by decide +kernel, rfl⟩
theorem dL_arePointsSo_247 : Dc cL_arePointsSo 247 (.iconst 2) 1 248 := ⟨by decide +kernel, rfl⟩
theorem dL_arePointsSo_248 : Dc cL_arePointsSo 248 (.invokevirtual 64) 3 251 := ⟨by decide +kernel, rfl⟩
theorem dL_arePointsSo_251 : Dj cL_arePointsSo 251 (.ifCond .lt 69) 3 254 (69) 320 := ⟨by decide +kernel, rfl, by decide⟩
theorem dL_arePointsSo_254 : Dc cL_arePointsSo 254 (.iload_n 2) 1 255 := ⟨by decide +kernel, rfl⟩
theorem dL_arePointsSo_255 : Dc cL_arePointsSo 255 (.iconst 2) 1 256 := ⟨by decide +kernel, rfl⟩
theorem dL_arePointsSo_256 : Dj cL_arePointsSo 256 (.if_icmp .ge 31) 3 259 (31) 287 := ⟨by decide +kernel, rfl, by decide⟩
theorem dL_arePointsSo_259 : Dc cL_arePointsSo 259 (.aload_n 0) 1 260 := ⟨by decide +kernel, rfl⟩
theorem dL_arePointsSo_260 : Dc cL_arePointsSo 260 (.iload_n 1) 1 261 := ⟨by decide +kernel, rfl⟩
theorem dL_arePointsSo_261 : Dc cL_arePointsSo 261 (.aload_n 0) 1 262 := ⟨by decide +kernel, rfl⟩
theorem dL_arePointsSo_262 : Dc cL_arePointsSo 262 (.iload_n 1) 1 263 := ⟨by decide +kernel, rfl⟩
theorem dL_arePointsSo_263 : Dc cL_arePointsSo 263 (.iload 8) 2 265 := ⟨by decide +kernel, rfl⟩
theorem dL_arePointsSo_265 : Dc cL_arePointsSo 265 (.iconst 0) 1 266 := ⟨by decide +kernel, rfl⟩
theorem dL_arePointsSo_266 : Dc cL_arePointsSo 266 (.invokevirtual 64) 3 269 := ⟨by decide +kernel, rfl⟩
theorem dL_arePointsSo_269 : Dc cL_arePointsSo 269 (.sipush 10000) 3 272 := ⟨by decide +kernel, rfl⟩
theorem dL_arePointsSo_272 : Dc cL_arePointsSo 272 (.isub) 1 273 := ⟨by decide +kernel, rfl⟩
theorem dL_arePointsSo_273 : Dc cL_arePointsSo 273 (.iload 8) 2 275 := ⟨by decide +kernel, rfl⟩
theorem dL_arePointsSo_275 : Dc cL_arePointsSo 275 (.iconst 2) 1 276 := ⟨by decide +kernel, rfl⟩
theorem dL_arePointsSo_276 : Dc cL_arePointsSo 276 (.irem) 1 277 := ⟨by decide +kernel, rfl⟩
theorem dL_arePointsSo_277 : Dc cL_arePointsSo 277 (.invokevirtual 67) 3 280 := ⟨by decide +kernel, rfl⟩
theorem dL_arePointsSo_280 : Dc cL_arePointsSo 280 (.iconst (-1)) 1 281 := ⟨by decide +kernel, rfl⟩
theorem dL_arePointsSo_281 : Dj cL_arePointsSo 281 (.if_icmp .ne 39) 3 284 (39) 320 := ⟨by decide +kernel, rfl, by decide⟩
theorem dL_arePointsSo_284 : Dj cL_arePointsSo 284 (.goto 32) 3 287 (32) 316 := ⟨by decide +kernel, rfl, by decide⟩
theorem dL_arePointsSo_287 : Dc cL_arePointsSo 287 (.aload_n 0) 1 288 := ⟨by decide +kernel, rfl⟩
theorem dL_arePointsSo_288 : Dc cL_arePointsSo 288 (.iload_n 1) 1 289 := ⟨by decide +kernel, rfl⟩
theorem dL_arePointsSo_289 : Dc cL_arePointsSo 289 (.aload_n 0) 1 290 := ⟨by decide +kernel, rfl⟩
theorem dL_arePointsSo_290 : Dc cL_arePointsSo 290 (.iload_n 1) 1 291 := ⟨by decide +kernel, rfl⟩
theorem dL_arePointsSo_291 : Dc cL_arePointsSo 291 (.iload 8) 2 293 := ⟨by decide +kernel, rfl⟩
theorem dL_arePointsSo_293 : Dc cL_arePointsSo 293 (.iconst 0) 1 294 := ⟨by decide +kernel, rfl⟩
theorem dL_arePointsSo_294 : Dc cL_arePointsSo 294 (.invokevirtual 64) 3 297 := ⟨by decide +kernel, rfl⟩
theorem dL_arePointsSo_297 : Dc cL_arePointsSo 297 (.sipush 10000) 3 300 := ⟨by decide +kernel, rfl⟩
theorem dL_arePointsSo_300 : Dc cL_arePointsSo 300 (.isub) 1 301 := ⟨by decide +kernel, rfl⟩
theorem dL_arePointsSo_301 : Dc cL_arePointsSo 301 (.iload 8) 2 303 := ⟨by decide +kernel, rfl⟩
theorem dL_arePointsSo_303 : Dc cL_arePointsSo 303 (.iconst 2) 1 304 := ⟨by decide +kernel, rfl⟩
theorem dL_arePointsSo_304 : Dc cL_arePointsSo 304 (.irem) 1 305 := ⟨by decide +kernel, rfl⟩
theorem dL_arePointsSo_305 : Dc cL_arePointsSo 305 (.invokevirtual 67) 3 308 := ⟨by decide +kernel, rfl⟩
theorem dL_arePointsSo_308 : Dc cL_arePointsSo 308 (.iload 9) 2 310 := ⟨by decide +kernel, rfl⟩
theorem dL_arePointsSo_310 : Dc cL_arePointsSo 310 (.ldc 70) 2 312 := ⟨by decide +kernel, rfl⟩
theorem dL_arePointsSo_312 : Dc cL_arePointsSo 312 (.iadd) 1 313 := ⟨by decide +kernel, rfl⟩
theorem dL_arePointsSo_313 : Dj cL_arePointsSo 313 (.if_icmp .ne 7) 3 316 (7) 320 := ⟨by decide +kernel, rfl, by decide⟩
theorem dL_arePointsSo_316 : Dc cL_arePointsSo 316 (.iconst 1) 1 317 := ⟨by decide +kernel, rfl⟩
theorem dL_arePointsSo_317 : Dj cL_arePointsSo 317 (.goto 4) 3 320 (4) 321 := ⟨by decide +kernel, rfl, by decide⟩
theorem dL_arePointsSo_320 : Dc cL_arePointsSo 320 (.iconst 0) 1 321 := ⟨by decide +kernel, rfl⟩
theorem dL_arePointsSo_321 : Dc cL_arePointsSo 321 (.istore 7) 2 323 := ⟨by decide +kernel, rfl⟩
theorem dL_arePointsSo_323 : Dc cL_arePointsSo 323 (.iinc 8 1) 3 326 := ⟨by decide +kernel, rfl⟩
theorem dL_arePointsSo_326 : Dj cL_arePointsSo 326 (.goto (-277)) 3 329 (-277) 49 := ⟨by decide +kernel, rfl, by decide⟩
theorem dL_arePointsSo_329 : Dc cL_arePointsSo 329 (.iload 7) 2 331 := ⟨by decide +kernel, rfl⟩
theorem dL_arePointsSo_331 : Dj cL_arePointsSo 331 (.ifCond .eq 60) 3 334 (60) 391 := ⟨by decide +kernel, rfl, by decide⟩
theorem dL_arePointsSo_334 : Dc cL_arePointsSo 334 (.iload 5) 2 336 := ⟨by decide +kernel, rfl⟩
theorem dL_arePointsSo_336 : Dc cL_arePointsSo 336 (.iload_n 2) 1 337 := ⟨by decide +kernel, rfl⟩
theorem dL_arePointsSo_337 : Dj cL_arePointsSo 337 (.ifCond .le 7) 3 340 (7) 344 := ⟨by decide +kernel, rfl, by decide⟩
theorem dL_arePointsSo_340 : Dc cL_arePointsSo 340 (.iconst 1) 1 341 := ⟨by decide +kernel, rfl⟩
theorem dL_arePointsSo_341 : Dj cL_arePointsSo 341 (.goto 4) 3 344 (4) 345 := ⟨by decide +kernel, rfl, by decide⟩
theorem dL_arePointsSo_344 : Dc cL_arePointsSo 344 (.iconst 0) 1 345 := ⟨by decide +kernel, rfl⟩
theorem dL_arePointsSo_345 : Dj cL_arePointsSo 345 (.if_icmp .ne 46) 3 348 (46) 391 := ⟨by decide +kernel, rfl, by decide⟩
theorem dL_arePointsSo_348 : Dc cL_arePointsSo 348 (.aload_n 0) 1 349 := ⟨by decide +kernel, rfl⟩
theorem dL_arePointsSo_349 : Dc cL_arePointsSo 349 (.iload_n 1) 1 350 := ⟨by decide +kernel, rfl⟩
theorem dL_arePointsSo_350 : Dc cL_arePointsSo 350 (.iconst 4) 1 351 := ⟨by decide +kernel, rfl⟩
theorem dL_arePointsSo_351 : Dc cL_arePointsSo 351 (.invokevirtual 61) 3 354 := ⟨by decide +kernel, rfl⟩
theorem dL_arePointsSo_354 : Dc cL_arePointsSo 354 (.iload 4) 2 356 := ⟨by decide +kernel, rfl⟩
theorem dL_arePointsSo_356 : Dj cL_arePointsSo 356 (.if_icmp .ne 35) 3 359 (35) 391 := ⟨by decide +kernel, rfl, by decide⟩
theorem dL_arePointsSo_359 : Dc cL_arePointsSo 359 (.iload_n 2) 1 360 := ⟨by decide +kernel, rfl⟩
theorem dL_arePointsSo_360 : Dj cL_arePointsSo 360 (.ifCond .eq 16) 3 363 (16) 376 := ⟨by decide +kernel, rfl, by decide⟩
theorem dL_arePointsSo_363 : Dc cL_arePointsSo 363 (.iload 6) 2 365 := ⟨by decide +kernel, rfl⟩
theorem dL_arePointsSo_365 : Dc cL_arePointsSo 365 (.iconst 1) 1 366 := ⟨by decide +kernel, rfl⟩
theorem dL_arePointsSo_366 : Dc cL_arePointsSo 366 (.iload 4) 2 368 := ⟨by decide +kernel, rfl⟩
theorem dL_arePointsSo_368 : Dc cL_arePointsSo 368 (.iconst 1) 1 369 := ⟨by decide +kernel, rfl⟩
theorem dL_arePointsSo_369 : Dc cL_arePointsSo 369 (.iadd) 1 370 := ⟨by decide +kernel, rfl⟩
theorem dL_arePointsSo_370 : Dc cL_arePointsSo 370 (.ishl) 1 371 := ⟨by decide +kernel, rfl⟩
theorem dL_arePointsSo_371 : Dc cL_arePointsSo 371 (.iconst 2) 1 372 := ⟨by decide +kernel, rfl⟩
theorem dL_arePointsSo_372 : Dc cL_arePointsSo 372 (.isub) 1 373 := ⟨by decide +kernel, rfl⟩
theorem dL_arePointsSo_373 : Dj cL_arePointsSo 373 (.if_icmp .ne 18) 3 376 (18) 391 := ⟨by decide +kernel, rfl, by decide⟩
theorem dL_arePointsSo_376 : Dc cL_arePointsSo 376 (.aload_n 0) 1 377 := ⟨by decide +kernel, rfl⟩
theorem dL_arePointsSo_377 : Dc cL_arePointsSo 377 (.iload_n 1) 1 378 := ⟨by decide +kernel, rfl⟩
theorem dL_arePointsSo_378 : Dc cL_arePointsSo 378 (.bipush 8) 2 380 := ⟨by decide +kernel, rfl⟩
theorem dL_arePointsSo_380 : Dc cL_arePointsSo 380 (.invokevirtual 61) 3 383 := ⟨by decide +kernel, rfl⟩
theorem dL_arePointsSo_383 : Dc cL_arePointsSo 383 (.iload_n 3) 1 384 := ⟨by decide +kernel, rfl⟩
theorem dL_arePointsSo_384 : Dj cL_arePointsSo 384 (.if_icmp .ne 7) 3 387 (7) 391 := ⟨by decide +kernel, rfl, by decide⟩
theorem dL_arePointsSo_387 : Dc cL_arePointsSo 387 (.iconst 1) 1 388 := ⟨by decide +kernel, rfl⟩
theorem dL_arePointsSo_388 : Dj cL_arePointsSo 388 (.goto 4) 3 391 (4) 392 := ⟨by decide +kernel, rfl, by decide⟩
theorem dL_arePointsSo_391 : Dc cL_arePointsSo 391 (.iconst 0) 1 392 := ⟨by decide +kernel, rfl⟩
theorem dL_arePointsSo_392 : Dc cL_arePointsSo 392 (.ireturn) 1 393 := ⟨by decide +kernel, rfl⟩
def LL_arePointsSo_49 (k329 : OM → Int32 → Int32 → Int32 → Int32 → Int32 → Option (Int32 × OM)) (r_1 : Int32) (v1 : Int32) : Nat → OM → Int32 → Int32 → Int32 → Int32 → Int32 → Int32 → Option (Int32 × OM)
  | 0 => fun _ _ _ _ _ _ _ => none
  | n + 1 => fun o_25 v3_19 v4_20 v5_21 v6_22 v7_23 v8_24 => if r_1 ≤ v8_24 then (k329 o_25 v3_19 v4_20 v5_21 v6_22 v7_23) else (b0 (F_X5_point o_25 v1 v8_24 ((1 : Int32))) (fun r_26 o_27 => b0 (F_X5_point o_27 v1 v8_24 ((3 : Int32))) (fun r_28 o_29 => bd (fun (o_32 : OM) (v3_30 : Int32) (v7_31 : Int32) => bd (fun (s_33 : Int32) => bd (fun (s_34 : Int32) => bd (v5_21 + s_34) (fun v5_35 : Int32 => bd (v6_22 ||| (((1 : Int32)) <<< (r_28 &&& 31))) (fun v6_36 : Int32 => bd (fun (o_38 : OM) (s_37 : Int32) => bd (v8_24 + (1 : Int32)) (fun v8_39 : Int32 => (LL_arePointsSo_49 k329 r_1 v1 n) o_38 v3_30 s_33 v5_35 v6_36 s_37 v8_39)) (fun k321 => bd (fun (o_40 : OM) => k321 o_40 ((0 : Int32))) (fun k320 => if v7_31 = 0 then (k320 o_32) else (if r_28 ≤ 0 then (k320 o_32) else (if r_1 < r_28 then (k320 o_32) else (b0 (F_X5_point o_32 v1 v8_24 ((2 : Int32))) (fun r_41 o_42 => b0 (F_X5_count o_42 ((0 : Int32))) (fun r_43 o_44 => if r_43 < r_41 then (k320 o_44) else (b0 (F_X5_point o_44 v1 v8_24 ((2 : Int32))) (fun r_45 o_46 => if r_45 < 0 then (k320 o_46) else (bd (fun (o_47 : OM) => k321 o_47 ((1 : Int32))) (fun k316 => if ((2 : Int32)) ≤ r_1 then (b0 (F_X5_point o_46 v1 v8_24 ((0 : Int32))) (fun r_48 o_49 => grd (decide (¬ ((2 : Int32)) = 0)) (b0 (F_X5_corrected o_49 v1 (r_48 - ((10000 : Int32))) (v8_24 - v8_24 / ((2 : Int32)) * ((2 : Int32)))) (fun r_50 o_51 => if r_50 = (r_26 + ((9990000 : Int32))) then (k316 o_51) else (k320 o_51))))) else (b0 (F_X5_point o_46 v1 v8_24 ((0 : Int32))) (fun r_52 o_53 => grd (decide (¬ ((2 : Int32)) = 0)) (b0 (F_X5_corrected o_53 v1 (r_52 - ((10000 : Int32))) (v8_24 - v8_24 / ((2 : Int32)) * ((2 : Int32)))) (fun r_54 o_55 => if r_54 = ((-1 : Int32)) then (k316 o_55) else (k320 o_55))))))))))))))))))) (fun k199 => if r_28 = ((1 : Int32)) then (k199 ((1 : Int32))) else (k199 ((0 : Int32))))) (fun k184 => if r_28 ≤ v4_20 then (k184 v4_20) else (k184 r_28))) (fun k170 => if v8_24 ≤ 0 then (k170 o_29 v3_19 v7_23) else (b0 (F_X5_point o_29 v1 (v8_24 - ((1 : Int32))) ((1 : Int32))) (fun r_56 o_57 => b0 (F_X5_point o_57 v1 (v8_24 - ((1 : Int32))) ((3 : Int32))) (fun r_58 o_59 => bd (fun (s_60 : Int32) => bd (fun (o_62 : OM) (s_61 : Int32) => k170 o_62 s_60 s_61) (fun k168 => bd (fun (o_63 : OM) => k168 o_63 ((0 : Int32))) (fun k167 => if v7_23 = 0 then (k167 o_59) else (b0 (F_X5_point o_59 v1 v8_24 ((0 : Int32))) (fun r_64 o_65 => b0 (F_X5_point o_65 v1 (v8_24 - ((1 : Int32))) ((0 : Int32))) (fun r_66 o_67 => if r_64 ≤ r_66 then (k167 o_67) else (if r_26 ≤ r_56 then (k167 o_67) else (if r_28 = r_58 then (k167 o_67) else (k168 o_67 ((1 : Int32))))))))))) (fun k122 => if (r_26 - r_56) ≤ v3_19 then (k122 v3_19) else (k122 (r_26 - r_56))))))))))
def F_L_arePointsSo (o : OM) (v1 : Int32) : Option (Int32 × OM) := b0 (F_X5_thermometer o v1 ((3 : Int32))) (fun r_1 o_2 => bd (fun (o_4 : OM) (s_3 : Int32) => bd (fun (o_10 : OM) (v3_5 : Int32) (v4_6 : Int32) (v5_7 : Int32) (v6_8 : Int32) (v7_9 : Int32) => bd (fun (o_12 : OM) (s_11 : Int32) => grd (isZ s_11) (some (s_11, o_12))) (fun k392 => bd (fun (o_13 : OM) => k392 o_13 ((0 : Int32))) (fun k391 => if v7_9 = 0 then (k391 o_10) else (bd (fun (s_14 : Int32) => if v5_7 = s_14 then (b0 (F_X5_thermometer o_10 v1 ((4 : Int32))) (fun r_15 o_16 => if r_15 = v4_6 then (bd (fun (_ : Unit) => b0 (F_X5_thermometer o_16 v1 ((8 : Int32))) (fun r_17 o_18 => if r_17 = v3_5 then (k392 o_18 ((1 : Int32))) else (k391 o_18))) (fun k376 => if r_1 = 0 then (k376 ()) else (if v6_8 = ((((1 : Int32)) <<< ((v4_6 + ((1 : Int32))) &&& 31)) - ((2 : Int32))) then (k376 ()) else (k391 o_16)))) else (k391 o_16))) else (k391 o_10)) (fun k345 => if r_1 ≤ 0 then (k345 ((0 : Int32))) else (k345 ((1 : Int32)))))))) (fun k329 => LL_arePointsSo_49 k329 r_1 v1 FU o_4 ((0 : Int32)) ((0 : Int32)) ((0 : Int32)) ((0 : Int32)) s_3 ((0 : Int32)))) (fun k44 => bd (fun (o_68 : OM) => k44 o_68 ((0 : Int32))) (fun k43 => if r_1 < 0 then (k43 o_2) else (if ((10 : Int32)) < r_1 then (k43 o_2) else (b0 (F_X5_point o_2 v1 r_1 ((1 : Int32))) (fun r_69 o_70 => if r_69 = ((-1 : Int32)) then (k44 o_70 ((1 : Int32))) else (k43 o_70)))))))
abbrev rmL_arePointsSo : Room := { frames := 8, cells := 0, slots := 0, locals := 142 }
set_option maxHeartbeats 4000000 in
set_option maxRecDepth 100000 in
theorem lL_arePointsSo_49 {G : Gd} {p : Program} {l : Launch} {e : Env} {s : State} {m : MethodId} {args : Array Value} {below : List Frame} {meth : Method} {c : Code} {r : Int32} {o9 : OM} {r_1 : Int32} {v1 : Int32} (C : Cx G RL cL_arePointsSo 13 (some .boolean) p s m args meth c) (X : XW G s) (hl9 : l.stackTraces = false)  {k329 : OM → Int32 → Int32 → Int32 → Int32 → Int32 → Option (Int32 × OM)} (j329 : ∀ (o_10 : OM) (v3_5 : Int32) (v4_6 : Int32) (v5_7 : Int32) (v6_8 : Int32) (v7_9 : Int32) H1 L1 ls, Hp G o_10 s H1 L1 → lv_has ls 13 [(0, .ref (rA G 0 0)), (1, .int v1), (2, .int r_1), (3, .int v3_5), (4, .int v4_6), (5, .int v5_7), (6, .int v6_8), (7, .int v7_9)] → k329 o_10 v3_5 v4_6 v5_7 v6_8 v7_9 = some (r, o9) → W p l e rmL_arePointsSo s m args below meth c H1 L1 0 0 (Qm G (some (.int r)) o9 rmL_arePointsSo below args s) (F0 m 329 ls [])) : ∀ (n : Nat) (o_25 : OM) (v3_19 : Int32) (v4_20 : Int32) (v5_21 : Int32) (v6_22 : Int32) (v7_23 : Int32) (v8_24 : Int32) H1 L1 ls, Hp G o_25 s H1 L1 → lv_has ls 13 [(0, .ref (rA G 0 0)), (1, .int v1), (2, .int r_1), (3, .int v3_19), (4, .int v4_20), (5, .int v5_21), (6, .int v6_22), (7, .int v7_23), (8, .int v8_24)] → LL_arePointsSo_49 k329 r_1 v1 n o_25 v3_19 v4_20 v5_21 v6_22 v7_23 v8_24 = some (r, o9) → W p l e rmL_arePointsSo s m args below meth c H1 L1 0 0 (Qm G (some (.int r)) o9 rmL_arePointsSo below args s) (F0 m 49 ls []) := by
  intro n
  induction n with
  | zero =>
    intro o_25 v3_19 v4_20 v5_21 v6_22 v7_23 v8_24 H1 L1 ls P hl hf
    exact nomatch hf
  | succ n ih =>
    intro o_25 v3_19 v4_20 v5_21 v6_22 v7_23 v8_24 H1 L1 ls P hl hf
    rw [LL_arePointsSo_49.eq_2] at hf
    refine r_iload C hl 8 rfl dL_arePointsSo_49 ?_
    refine r_iload_n C hl 2 rfl rfl dL_arePointsSo_51 ?_
    refine r_icmp_ge C dL_arePointsSo_52 hf (fun hf => ?_) (fun hf => ?_)
    · exact j329 o_25 v3_19 v4_20 v5_21 v6_22 v7_23 _ _ _ P (lv_sub hl [0, 1, 2, 3, 4, 5, 6, 7] rfl) hf
    · refine r_aload_n C hl 0 rfl rfl dL_arePointsSo_55 ?_
      refine r_iload_n C hl 1 rfl rfl dL_arePointsSo_56 ?_
      refine r_iload C hl 8 rfl dL_arePointsSo_57 ?_
      refine r_iconst C (v := 1) (by decide) dL_arePointsSo_59 ?_
      refine m_cVi C X P cf_L_64 (rm := rmX5_point) rfl [.int v1, .int v8_24, .int ((1 : Int32))] [] hf (fun _ _ h => ctX5_point l G hl9 o_25 v1 v8_24 ((1 : Int32)) h) ⟨Nat.le_of_ble_eq_true rfl, Nat.le_of_ble_eq_true rfl⟩ ⟨Nat.le_of_ble_eq_true rfl, Nat.le_of_ble_eq_true rfl⟩ rfl rfl hl.1 (Nat.le_of_ble_eq_true rfl) dL_arePointsSo_60 (fun r_26 o_27 H1 L1 P hf => ?_)
      refine r_istore C [(9, .int r_26), (0, .ref (rA G 0 0)), (1, .int v1), (2, .int r_1), (3, .int v3_19), (4, .int v4_20), (5, .int v5_21), (6, .int v6_22), (7, .int v7_23), (8, .int v8_24)] hl (by decide) rfl dL_arePointsSo_63 (fun ls hl => ?_)
      refine r_aload_n C hl 1 rfl rfl dL_arePointsSo_65 ?_
      refine r_iload_n C hl 2 rfl rfl dL_arePointsSo_66 ?_
      refine r_iload C hl 9 rfl dL_arePointsSo_67 ?_
      refine r_iconst C (v := 3) (by decide) dL_arePointsSo_69 ?_
      refine m_cVi C X P cf_L_64 (rm := rmX5_point) rfl [.int v1, .int v8_24, .int ((3 : Int32))] [] hf (fun _ _ h => ctX5_point l G hl9 o_27 v1 v8_24 ((3 : Int32)) h) ⟨Nat.le_of_ble_eq_true rfl, Nat.le_of_ble_eq_true rfl⟩ ⟨Nat.le_of_ble_eq_true rfl, Nat.le_of_ble_eq_true rfl⟩ rfl rfl hl.1 (Nat.le_of_ble_eq_true rfl) dL_arePointsSo_70 (fun r_28 o_29 H1 L1 P hf => ?_)
      refine r_istore C [(10, .int r_28), (9, .int r_26), (0, .ref (rA G 0 0)), (1, .int v1), (2, .int r_1), (3, .int v3_19), (4, .int v4_20), (5, .int v5_21), (6, .int v6_22), (7, .int v7_23), (8, .int v8_24)] hl (by decide) rfl dL_arePointsSo_73 (fun ls hl => ?_)
      refine r_iload C hl 10 rfl dL_arePointsSo_75 ?_
      refine r_jn (fun k170 : OM → Int32 → Int32 → Option (Int32 × OM) => ∀ (o_32 : OM) (v3_30 : Int32) (v7_31 : Int32) H1 L1 ls, Hp G o_32 s H1 L1 → lv_has ls 13 [(0, .ref (rA G 0 0)), (1, .int v1), (2, .int r_1), (3, .int v3_30), (4, .int v4_20), (5, .int v5_21), (6, .int v6_22), (7, .int v7_31), (8, .int v8_24), (9, .int r_26), (10, .int r_28)] → k170 o_32 v3_30 v7_31 = some (r, o9) → W p l e rmL_arePointsSo s m args below meth c H1 L1 0 0 (Qm G (some (.int r)) o9 rmL_arePointsSo below args s) (F0 m 170 ls [])) hf ?_ (fun k170 j170 hf => ?_)
      · intro o_32 v3_30 v7_31 H1 L1 ls  P hl hf
        refine r_iload C hl 10 rfl dL_arePointsSo_170 ?_
        refine r_iload C hl 4 rfl dL_arePointsSo_172 ?_
        refine r_jn (fun k184 : Int32 → Option (Int32 × OM) => ∀ (s_33 : Int32) H1 L1 ls, Hp G o_32 s H1 L1 → lv_has ls 13 [(0, .ref (rA G 0 0)), (1, .int v1), (2, .int r_1), (3, .int v3_30), (5, .int v5_21), (6, .int v6_22), (7, .int v7_31), (8, .int v8_24), (9, .int r_26), (10, .int r_28)] → k184 s_33 = some (r, o9) → W p l e rmL_arePointsSo s m args below meth c H1 L1 0 0 (Qm G (some (.int r)) o9 rmL_arePointsSo below args s) (F0 m 184 ls [.int s_33])) hf ?_ (fun k184 j184 hf => ?_)
        · intro s_33 H1 L1 ls  P hl hf
          refine r_istore C [(4, .int s_33), (0, .ref (rA G 0 0)), (1, .int v1), (2, .int r_1), (3, .int v3_30), (5, .int v5_21), (6, .int v6_22), (7, .int v7_31), (8, .int v8_24), (9, .int r_26), (10, .int r_28)] hl (by decide) rfl dL_arePointsSo_184 (fun ls hl => ?_)
          refine r_iload C hl 5 rfl dL_arePointsSo_186 ?_
          refine r_iload C hl 10 rfl dL_arePointsSo_188 ?_
          refine r_iconst C (v := 1) (by decide) dL_arePointsSo_190 ?_
          refine r_jn (fun k199 : Int32 → Option (Int32 × OM) => ∀ (s_34 : Int32) H1 L1 ls, Hp G o_32 s H1 L1 → lv_has ls 13 [(0, .ref (rA G 0 0)), (1, .int v1), (2, .int r_1), (3, .int v3_30), (4, .int s_33), (6, .int v6_22), (7, .int v7_31), (8, .int v8_24), (9, .int r_26), (10, .int r_28)] → k199 s_34 = some (r, o9) → W p l e rmL_arePointsSo s m args below meth c H1 L1 0 0 (Qm G (some (.int r)) o9 rmL_arePointsSo below args s) (F0 m 199 ls [.int s_34, .int v5_21])) hf ?_ (fun k199 j199 hf => ?_)
          · intro s_34 H1 L1 ls  P hl hf
            refine r_iadd2 C dL_arePointsSo_199 ?_
            refine r_bdi hf (fun v5_35 hf => ?_)
            refine r_istore C [(5, .int v5_35), (0, .ref (rA G 0 0)), (1, .int v1), (2, .int r_1), (3, .int v3_30), (4, .int s_33), (6, .int v6_22), (7, .int v7_31), (8, .int v8_24), (9, .int r_26), (10, .int r_28)] hl (by decide) rfl dL_arePointsSo_200 (fun ls hl => ?_)
            refine r_iload C hl 6 rfl dL_arePointsSo_202 ?_
            refine r_iconst C (v := 1) (by decide) dL_arePointsSo_204 ?_
            refine r_iload C hl 10 rfl dL_arePointsSo_205 ?_
            refine r_ishl C dL_arePointsSo_207 ?_
            refine r_ior C dL_arePointsSo_208 ?_
            refine r_bdi hf (fun v6_36 hf => ?_)
            refine r_istore C [(6, .int v6_36), (5, .int v5_35), (0, .ref (rA G 0 0)), (1, .int v1), (2, .int r_1), (3, .int v3_30), (4, .int s_33), (7, .int v7_31), (8, .int v8_24), (9, .int r_26), (10, .int r_28)] hl (by decide) rfl dL_arePointsSo_209 (fun ls hl => ?_)
            refine r_iload C hl 7 rfl dL_arePointsSo_211 ?_
            refine r_jn (fun k321 : OM → Int32 → Option (Int32 × OM) => ∀ (o_38 : OM) (s_37 : Int32) H1 L1 ls, Hp G o_38 s H1 L1 → lv_has ls 13 [(0, .ref (rA G 0 0)), (1, .int v1), (2, .int r_1), (3, .int v3_30), (4, .int s_33), (5, .int v5_35), (6, .int v6_36), (8, .int v8_24)] → k321 o_38 s_37 = some (r, o9) → W p l e rmL_arePointsSo s m args below meth c H1 L1 0 0 (Qm G (some (.int r)) o9 rmL_arePointsSo below args s) (F0 m 321 ls [.int s_37])) hf ?_ (fun k321 j321 hf => ?_)
            · intro o_38 s_37 H1 L1 ls  P hl hf
              refine r_istore C [(7, .int s_37), (0, .ref (rA G 0 0)), (1, .int v1), (2, .int r_1), (3, .int v3_30), (4, .int s_33), (5, .int v5_35), (6, .int v6_36), (8, .int v8_24)] hl (by decide) rfl dL_arePointsSo_321 (fun ls hl => ?_)
              refine r_iinc C (fun v8_39 => [(8, .int v8_39), (7, .int s_37), (0, .ref (rA G 0 0)), (1, .int v1), (2, .int r_1), (3, .int v3_30), (4, .int s_33), (5, .int v5_35), (6, .int v6_36)]) (w := 1) 8 hl rfl (by decide) (by decide) (fun _ => rfl) dL_arePointsSo_323 hf (fun v8_39 ls hl hf => ?_)
              refine r_goto C dL_arePointsSo_326 ?_
              exact ih o_38 v3_30 s_33 v5_35 v6_36 s_37 v8_39 _ _ _ P (lv_sub hl [2, 3, 4, 5, 6, 7, 8, 1, 0] rfl) hf
            refine r_jn (fun k320 : OM → Option (Int32 × OM) => ∀ (o_40 : OM) H1 L1 ls, Hp G o_40 s H1 L1 → lv_has ls 13 [(0, .ref (rA G 0 0)), (1, .int v1), (2, .int r_1), (3, .int v3_30), (4, .int s_33), (5, .int v5_35), (6, .int v6_36), (8, .int v8_24)] → k320 o_40 = some (r, o9) → W p l e rmL_arePointsSo s m args below meth c H1 L1 0 0 (Qm G (some (.int r)) o9 rmL_arePointsSo below args s) (F0 m 320 ls [])) hf ?_ (fun k320 j320 hf => ?_)
            · intro o_40 H1 L1 ls  P hl hf
              refine r_iconst C (v := 0) (by decide) dL_arePointsSo_320 ?_
              exact j321 o_40 ((0 : Int32)) _ _ _ P (lv_sub hl [0, 1, 2, 3, 4, 5, 6, 7] rfl) hf
            refine r_if_eq C dL_arePointsSo_213 hf (fun hf => ?_) (fun hf => ?_)
            · exact j320 o_32 _ _ _ P (lv_sub hl [2, 3, 4, 5, 6, 1, 0, 8] rfl) hf
            · refine r_iload C hl 10 rfl dL_arePointsSo_216 ?_
              refine r_if_le C dL_arePointsSo_218 hf (fun hf => ?_) (fun hf => ?_)
              · exact j320 o_32 _ _ _ P (lv_sub hl [2, 3, 4, 5, 6, 1, 0, 8] rfl) hf
              · refine r_iload C hl 10 rfl dL_arePointsSo_221 ?_
                refine r_iload_n C hl 4 rfl rfl dL_arePointsSo_223 ?_
                refine r_icmp_gt C dL_arePointsSo_224 hf (fun hf => ?_) (fun hf => ?_)
                · exact j320 o_32 _ _ _ P (lv_sub hl [2, 3, 4, 5, 6, 1, 0, 8] rfl) hf
                · refine r_aload_n C hl 2 rfl rfl dL_arePointsSo_227 ?_
                  refine r_iload_n C hl 3 rfl rfl dL_arePointsSo_228 ?_
                  refine r_iload C hl 8 rfl dL_arePointsSo_229 ?_
                  refine r_iconst C (v := 2) (by decide) dL_arePointsSo_231 ?_
                  refine m_cVi C X P cf_L_64 (rm := rmX5_point) rfl [.int v1, .int v8_24, .int ((2 : Int32))] [] hf (fun _ _ h => ctX5_point l G hl9 o_32 v1 v8_24 ((2 : Int32)) h) ⟨Nat.le_of_ble_eq_true rfl, Nat.le_of_ble_eq_true rfl⟩ ⟨Nat.le_of_ble_eq_true rfl, Nat.le_of_ble_eq_true rfl⟩ rfl rfl hl.1 (Nat.le_of_ble_eq_true rfl) dL_arePointsSo_232 (fun r_41 o_42 H1 L1 P hf => ?_)
                  refine r_aload_n C hl 2 rfl rfl dL_arePointsSo_235 ?_
                  refine r_iconst C (v := 0) (by decide) dL_arePointsSo_236 ?_
                  refine m_cVi C X P cf_L_48 (rm := rmX5_count) rfl [.int ((0 : Int32))] [.int r_41] hf (fun _ _ h => ctX5_count l G hl9 o_42 ((0 : Int32)) h) ⟨Nat.le_of_ble_eq_true rfl, Nat.le_of_ble_eq_true rfl⟩ ⟨Nat.le_of_ble_eq_true rfl, Nat.le_of_ble_eq_true rfl⟩ rfl rfl hl.1 (Nat.le_of_ble_eq_true rfl) dL_arePointsSo_237 (fun r_43 o_44 H1 L1 P hf => ?_)
                  refine r_icmp_gt C dL_arePointsSo_240 hf (fun hf => ?_) (fun hf => ?_)
                  · exact j320 o_44 _ _ _ P (lv_sub hl [2, 3, 4, 5, 6, 1, 0, 8] rfl) hf
                  · refine r_aload_n C hl 2 rfl rfl dL_arePointsSo_243 ?_
                    refine r_iload_n C hl 3 rfl rfl dL_arePointsSo_244 ?_
                    refine r_iload C hl 8 rfl dL_arePointsSo_245 ?_
                    refine r_iconst C (v := 2) (by decide) dL_arePointsSo_247 ?_
                    refine m_cVi C X P cf_L_64 (rm := rmX5_point) rfl [.int v1, .int v8_24, .int ((2 : Int32))] [] hf (fun _ _ h => ctX5_point l G hl9 o_44 v1 v8_24 ((2 : Int32)) h) ⟨Nat.le_of_ble_eq_true rfl, Nat.le_of_ble_eq_true rfl⟩ ⟨Nat.le_of_ble_eq_true rfl, Nat.le_of_ble_eq_true rfl⟩ rfl rfl hl.1 (Nat.le_of_ble_eq_true rfl) dL_arePointsSo_248 (fun r_45 o_46 H1 L1 P hf => ?_)
                    refine r_if_lt C dL_arePointsSo_251 hf (fun hf => ?_) (fun hf => ?_)
                    · exact j320 o_46 _ _ _ P (lv_sub hl [2, 3, 4, 5, 6, 1, 0, 8] rfl) hf
                    · refine r_iload_n C hl 4 rfl rfl dL_arePointsSo_254 ?_
                      refine r_iconst C (v := 2) (by decide) dL_arePointsSo_255 ?_
                      refine r_jn (fun k316 : OM → Option (Int32 × OM) => ∀ (o_47 : OM) H1 L1 ls, Hp G o_47 s H1 L1 → lv_has ls 13 [(0, .ref (rA G 0 0)), (1, .int v1), (2, .int r_1), (3, .int v3_30), (4, .int s_33), (5, .int v5_35), (6, .int v6_36), (8, .int v8_24)] → k316 o_47 = some (r, o9) → W p l e rmL_arePointsSo s m args below meth c H1 L1 0 0 (Qm G (some (.int r)) o9 rmL_arePointsSo below args s) (F0 m 316 ls [])) hf ?_ (fun k316 j316 hf => ?_)
                      · intro o_47 H1 L1 ls  P hl hf
                        refine r_iconst C (v := 1) (by decide) dL_arePointsSo_316 ?_
                        refine r_goto C dL_arePointsSo_317 ?_
                        exact j321 o_47 ((1 : Int32)) _ _ _ P (lv_sub hl [0, 1, 2, 3, 4, 5, 6, 7] rfl) hf
                      refine r_icmp_ge C dL_arePointsSo_256 hf (fun hf => ?_) (fun hf => ?_)
                      · refine r_aload_n C hl 2 rfl rfl dL_arePointsSo_287 ?_
                        refine r_iload_n C hl 3 rfl rfl dL_arePointsSo_288 ?_
                        refine r_aload_n C hl 2 rfl rfl dL_arePointsSo_289 ?_
                        refine r_iload_n C hl 3 rfl rfl dL_arePointsSo_290 ?_
                        refine r_iload C hl 8 rfl dL_arePointsSo_291 ?_
                        refine r_iconst C (v := 0) (by decide) dL_arePointsSo_293 ?_
                        refine m_cVi C X P cf_L_64 (rm := rmX5_point) rfl [.int v1, .int v8_24, .int ((0 : Int32))] [.int v1, .ref (rA G 0 0)] hf (fun _ _ h => ctX5_point l G hl9 o_46 v1 v8_24 ((0 : Int32)) h) ⟨Nat.le_of_ble_eq_true rfl, Nat.le_of_ble_eq_true rfl⟩ ⟨Nat.le_of_ble_eq_true rfl, Nat.le_of_ble_eq_true rfl⟩ rfl rfl hl.1 (Nat.le_of_ble_eq_true rfl) dL_arePointsSo_294 (fun r_48 o_49 H1 L1 P hf => ?_)
                        refine r_sipush C (v := 10000) (by decide) dL_arePointsSo_297 ?_
                        refine r_isub C dL_arePointsSo_300 ?_
                        refine r_iload C hl 8 rfl dL_arePointsSo_301 ?_
                        refine r_iconst C (v := 2) (by decide) dL_arePointsSo_303 ?_
                        refine r_irem C dL_arePointsSo_304 hf (fun hf => ?_)
                        refine m_cVi C X P cf_L_67 (rm := rmX5_corrected) rfl [.int v1, .int (r_48 - ((10000 : Int32))), .int (v8_24 - v8_24 / ((2 : Int32)) * ((2 : Int32)))] [] hf (fun _ _ h => ctX5_corrected l G hl9 o_49 v1 (r_48 - ((10000 : Int32))) (v8_24 - v8_24 / ((2 : Int32)) * ((2 : Int32))) h) ⟨Nat.le_of_ble_eq_true rfl, Nat.le_of_ble_eq_true rfl⟩ ⟨Nat.le_of_ble_eq_true rfl, Nat.le_of_ble_eq_true rfl⟩ rfl rfl hl.1 (Nat.le_of_ble_eq_true rfl) dL_arePointsSo_305 (fun r_50 o_51 H1 L1 P hf => ?_)
                        refine r_iload C hl 9 rfl dL_arePointsSo_308 ?_
                        refine r_ldc C wd_608 dL_arePointsSo_310 ?_
                        refine r_iadd2 C dL_arePointsSo_312 ?_
                        refine r_icmp_ne C dL_arePointsSo_313 hf (fun hf => ?_) (fun hf => ?_)
                        · exact j320 o_51 _ _ _ P (lv_sub hl [2, 3, 4, 5, 6, 1, 0, 8] rfl) hf
                        · exact j316 o_51 _ _ _ P (lv_sub hl [2, 3, 4, 5, 6, 1, 0, 8] rfl) hf
                      · refine r_aload_n C hl 2 rfl rfl dL_arePointsSo_259 ?_
                        refine r_iload_n C hl 3 rfl rfl dL_arePointsSo_260 ?_
                        refine r_aload_n C hl 2 rfl rfl dL_arePointsSo_261 ?_
                        refine r_iload_n C hl 3 rfl rfl dL_arePointsSo_262 ?_
                        refine r_iload C hl 8 rfl dL_arePointsSo_263 ?_
                        refine r_iconst C (v := 0) (by decide) dL_arePointsSo_265 ?_
                        refine m_cVi C X P cf_L_64 (rm := rmX5_point) rfl [.int v1, .int v8_24, .int ((0 : Int32))] [.int v1, .ref (rA G 0 0)] hf (fun _ _ h => ctX5_point l G hl9 o_46 v1 v8_24 ((0 : Int32)) h) ⟨Nat.le_of_ble_eq_true rfl, Nat.le_of_ble_eq_true rfl⟩ ⟨Nat.le_of_ble_eq_true rfl, Nat.le_of_ble_eq_true rfl⟩ rfl rfl hl.1 (Nat.le_of_ble_eq_true rfl) dL_arePointsSo_266 (fun r_52 o_53 H1 L1 P hf => ?_)
                        refine r_sipush C (v := 10000) (by decide) dL_arePointsSo_269 ?_
                        refine r_isub C dL_arePointsSo_272 ?_
                        refine r_iload C hl 8 rfl dL_arePointsSo_273 ?_
                        refine r_iconst C (v := 2) (by decide) dL_arePointsSo_275 ?_
                        refine r_irem C dL_arePointsSo_276 hf (fun hf => ?_)
                        refine m_cVi C X P cf_L_67 (rm := rmX5_corrected) rfl [.int v1, .int (r_52 - ((10000 : Int32))), .int (v8_24 - v8_24 / ((2 : Int32)) * ((2 : Int32)))] [] hf (fun _ _ h => ctX5_corrected l G hl9 o_53 v1 (r_52 - ((10000 : Int32))) (v8_24 - v8_24 / ((2 : Int32)) * ((2 : Int32))) h) ⟨Nat.le_of_ble_eq_true rfl, Nat.le_of_ble_eq_true rfl⟩ ⟨Nat.le_of_ble_eq_true rfl, Nat.le_of_ble_eq_true rfl⟩ rfl rfl hl.1 (Nat.le_of_ble_eq_true rfl) dL_arePointsSo_277 (fun r_54 o_55 H1 L1 P hf => ?_)
                        refine r_iconst C (v := -1) (by decide) dL_arePointsSo_280 ?_
                        refine r_icmp_ne C dL_arePointsSo_281 hf (fun hf => ?_) (fun hf => ?_)
                        · exact j320 o_55 _ _ _ P (lv_sub hl [2, 3, 4, 5, 6, 1, 0, 8] rfl) hf
                        · refine r_goto C dL_arePointsSo_284 ?_
                          exact j316 o_55 _ _ _ P (lv_sub hl [2, 3, 4, 5, 6, 1, 0, 8] rfl) hf
          refine r_icmp_ne C dL_arePointsSo_191 hf (fun hf => ?_) (fun hf => ?_)
          · refine r_iconst C (v := 0) (by decide) dL_arePointsSo_198 ?_
            exact j199 ((0 : Int32)) _ _ _ P (lv_sub hl [1, 2, 3, 4, 0, 6, 7, 8, 9, 10] rfl) hf
          · refine r_iconst C (v := 1) (by decide) dL_arePointsSo_194 ?_
            refine r_goto C dL_arePointsSo_195 ?_
            exact j199 ((1 : Int32)) _ _ _ P (lv_sub hl [1, 2, 3, 4, 0, 6, 7, 8, 9, 10] rfl) hf
        refine r_icmp_le C dL_arePointsSo_174 hf (fun hf => ?_) (fun hf => ?_)
        · refine r_iload C hl 4 rfl dL_arePointsSo_182 ?_
          exact j184 v4_20 _ _ _ P (lv_sub hl [0, 1, 2, 3, 5, 6, 7, 8, 9, 10] rfl) hf
        · refine r_iload C hl 10 rfl dL_arePointsSo_177 ?_
          refine r_goto C dL_arePointsSo_179 ?_
          exact j184 r_28 _ _ _ P (lv_sub hl [0, 1, 2, 3, 5, 6, 7, 8, 9, 10] rfl) hf
      refine r_if_le C dL_arePointsSo_77 hf (fun hf => ?_) (fun hf => ?_)
      · exact j170 o_29 v3_19 v7_23 _ _ _ P (lv_sub hl [2, 3, 4, 5, 6, 7, 8, 9, 10, 1, 0] rfl) hf
      · refine r_aload_n C hl 2 rfl rfl dL_arePointsSo_80 ?_
        refine r_iload_n C hl 3 rfl rfl dL_arePointsSo_81 ?_
        refine r_iload C hl 10 rfl dL_arePointsSo_82 ?_
        refine r_iconst C (v := 1) (by decide) dL_arePointsSo_84 ?_
        refine r_isub C dL_arePointsSo_85 ?_
        refine r_iconst C (v := 1) (by decide) dL_arePointsSo_86 ?_
        refine m_cVi C X P cf_L_64 (rm := rmX5_point) rfl [.int v1, .int (v8_24 - ((1 : Int32))), .int ((1 : Int32))] [] hf (fun _ _ h => ctX5_point l G hl9 o_29 v1 (v8_24 - ((1 : Int32))) ((1 : Int32)) h) ⟨Nat.le_of_ble_eq_true rfl, Nat.le_of_ble_eq_true rfl⟩ ⟨Nat.le_of_ble_eq_true rfl, Nat.le_of_ble_eq_true rfl⟩ rfl rfl hl.1 (Nat.le_of_ble_eq_true rfl) dL_arePointsSo_87 (fun r_56 o_57 H1 L1 P hf => ?_)
        refine r_istore C [(11, .int r_56), (10, .int r_28), (9, .int r_26), (0, .ref (rA G 0 0)), (1, .int v1), (2, .int r_1), (3, .int v3_19), (4, .int v4_20), (5, .int v5_21), (6, .int v6_22), (7, .int v7_23), (8, .int v8_24)] hl (by decide) rfl dL_arePointsSo_90 (fun ls hl => ?_)
        refine r_aload_n C hl 3 rfl rfl dL_arePointsSo_92 ?_
        refine r_iload_n C hl 4 rfl rfl dL_arePointsSo_93 ?_
        refine r_iload C hl 11 rfl dL_arePointsSo_94 ?_
        refine r_iconst C (v := 1) (by decide) dL_arePointsSo_96 ?_
        refine r_isub C dL_arePointsSo_97 ?_
        refine r_iconst C (v := 3) (by decide) dL_arePointsSo_98 ?_
        refine m_cVi C X P cf_L_64 (rm := rmX5_point) rfl [.int v1, .int (v8_24 - ((1 : Int32))), .int ((3 : Int32))] [] hf (fun _ _ h => ctX5_point l G hl9 o_57 v1 (v8_24 - ((1 : Int32))) ((3 : Int32)) h) ⟨Nat.le_of_ble_eq_true rfl, Nat.le_of_ble_eq_true rfl⟩ ⟨Nat.le_of_ble_eq_true rfl, Nat.le_of_ble_eq_true rfl⟩ rfl rfl hl.1 (Nat.le_of_ble_eq_true rfl) dL_arePointsSo_99 (fun r_58 o_59 H1 L1 P hf => ?_)
        refine r_istore C [(12, .int r_58), (11, .int r_56), (10, .int r_28), (9, .int r_26), (0, .ref (rA G 0 0)), (1, .int v1), (2, .int r_1), (3, .int v3_19), (4, .int v4_20), (5, .int v5_21), (6, .int v6_22), (7, .int v7_23), (8, .int v8_24)] hl (by decide) rfl dL_arePointsSo_102 (fun ls hl => ?_)
        refine r_iload C hl 3 rfl dL_arePointsSo_104 ?_
        refine r_iload C hl 1 rfl dL_arePointsSo_106 ?_
        refine r_isub C dL_arePointsSo_108 ?_
        refine r_iload_n C hl 7 rfl rfl dL_arePointsSo_109 ?_
        refine r_jn (fun k122 : Int32 → Option (Int32 × OM) => ∀ (s_60 : Int32) H1 L1 ls, Hp G o_59 s H1 L1 → lv_has ls 13 [(0, .ref (rA G 0 0)), (1, .int v1), (2, .int r_1), (4, .int v4_20), (5, .int v5_21), (6, .int v6_22), (7, .int v7_23), (8, .int v8_24), (9, .int r_26), (10, .int r_28), (11, .int r_56), (12, .int r_58)] → k122 s_60 = some (r, o9) → W p l e rmL_arePointsSo s m args below meth c H1 L1 0 0 (Qm G (some (.int r)) o9 rmL_arePointsSo below args s) (F0 m 122 ls [.int s_60])) hf ?_ (fun k122 j122 hf => ?_)
        · intro s_60 H1 L1 ls  P hl hf
          refine r_istore_n C [(3, .int s_60), (0, .ref (rA G 0 0)), (1, .int v1), (2, .int r_1), (4, .int v4_20), (5, .int v5_21), (6, .int v6_22), (7, .int v7_23), (8, .int v8_24), (9, .int r_26), (10, .int r_28), (11, .int r_56), (12, .int r_58)] hl (by decide) rfl rfl dL_arePointsSo_122 (fun ls hl => ?_)
          refine r_iload C hl 7 rfl dL_arePointsSo_123 ?_
          refine r_jn (fun k168 : OM → Int32 → Option (Int32 × OM) => ∀ (o_62 : OM) (s_61 : Int32) H1 L1 ls, Hp G o_62 s H1 L1 → lv_has ls 13 [(0, .ref (rA G 0 0)), (1, .int v1), (2, .int r_1), (3, .int s_60), (4, .int v4_20), (5, .int v5_21), (6, .int v6_22), (8, .int v8_24), (9, .int r_26), (10, .int r_28)] → k168 o_62 s_61 = some (r, o9) → W p l e rmL_arePointsSo s m args below meth c H1 L1 0 0 (Qm G (some (.int r)) o9 rmL_arePointsSo below args s) (F0 m 168 ls [.int s_61])) hf ?_ (fun k168 j168 hf => ?_)
          · intro o_62 s_61 H1 L1 ls  P hl hf
            refine r_istore C [(7, .int s_61), (0, .ref (rA G 0 0)), (1, .int v1), (2, .int r_1), (3, .int s_60), (4, .int v4_20), (5, .int v5_21), (6, .int v6_22), (8, .int v8_24), (9, .int r_26), (10, .int r_28)] hl (by decide) rfl dL_arePointsSo_168 (fun ls hl => ?_)
            exact j170 o_62 s_60 s_61 _ _ _ P (lv_sub hl [1, 2, 3, 4, 5, 6, 7, 0, 8, 9, 10] rfl) hf
          refine r_jn (fun k167 : OM → Option (Int32 × OM) => ∀ (o_63 : OM) H1 L1 ls, Hp G o_63 s H1 L1 → lv_has ls 13 [(0, .ref (rA G 0 0)), (1, .int v1), (2, .int r_1), (3, .int s_60), (4, .int v4_20), (5, .int v5_21), (6, .int v6_22), (8, .int v8_24), (9, .int r_26), (10, .int r_28)] → k167 o_63 = some (r, o9) → W p l e rmL_arePointsSo s m args below meth c H1 L1 0 0 (Qm G (some (.int r)) o9 rmL_arePointsSo below args s) (F0 m 167 ls [])) hf ?_ (fun k167 j167 hf => ?_)
          · intro o_63 H1 L1 ls  P hl hf
            refine r_iconst C (v := 0) (by decide) dL_arePointsSo_167 ?_
            exact j168 o_63 ((0 : Int32)) _ _ _ P (lv_sub hl [0, 1, 2, 3, 4, 5, 6, 7, 8, 9] rfl) hf
          refine r_if_eq C dL_arePointsSo_125 hf (fun hf => ?_) (fun hf => ?_)
          · exact j167 o_59 _ _ _ P (lv_sub hl [1, 2, 3, 0, 4, 5, 6, 8, 9, 10] rfl) hf
          · refine r_aload_n C hl 1 rfl rfl dL_arePointsSo_128 ?_
            refine r_iload_n C hl 2 rfl rfl dL_arePointsSo_129 ?_
            refine r_iload C hl 8 rfl dL_arePointsSo_130 ?_
            refine r_iconst C (v := 0) (by decide) dL_arePointsSo_132 ?_
            refine m_cVi C X P cf_L_64 (rm := rmX5_point) rfl [.int v1, .int v8_24, .int ((0 : Int32))] [] hf (fun _ _ h => ctX5_point l G hl9 o_59 v1 v8_24 ((0 : Int32)) h) ⟨Nat.le_of_ble_eq_true rfl, Nat.le_of_ble_eq_true rfl⟩ ⟨Nat.le_of_ble_eq_true rfl, Nat.le_of_ble_eq_true rfl⟩ rfl rfl hl.1 (Nat.le_of_ble_eq_true rfl) dL_arePointsSo_133 (fun r_64 o_65 H1 L1 P hf => ?_)
            refine r_aload_n C hl 1 rfl rfl dL_arePointsSo_136 ?_
            refine r_iload_n C hl 2 rfl rfl dL_arePointsSo_137 ?_
            refine r_iload C hl 8 rfl dL_arePointsSo_138 ?_
            refine r_iconst C (v := 1) (by decide) dL_arePointsSo_140 ?_
            refine r_isub C dL_arePointsSo_141 ?_
            refine r_iconst C (v := 0) (by decide) dL_arePointsSo_142 ?_
            refine m_cVi C X P cf_L_64 (rm := rmX5_point) rfl [.int v1, .int (v8_24 - ((1 : Int32))), .int ((0 : Int32))] [.int r_64] hf (fun _ _ h => ctX5_point l G hl9 o_65 v1 (v8_24 - ((1 : Int32))) ((0 : Int32)) h) ⟨Nat.le_of_ble_eq_true rfl, Nat.le_of_ble_eq_true rfl⟩ ⟨Nat.le_of_ble_eq_true rfl, Nat.le_of_ble_eq_true rfl⟩ rfl rfl hl.1 (Nat.le_of_ble_eq_true rfl) dL_arePointsSo_143 (fun r_66 o_67 H1 L1 P hf => ?_)
            refine r_icmp_le C dL_arePointsSo_146 hf (fun hf => ?_) (fun hf => ?_)
            · exact j167 o_67 _ _ _ P (lv_sub hl [1, 2, 3, 0, 4, 5, 6, 8, 9, 10] rfl) hf
            · refine r_iload C hl 9 rfl dL_arePointsSo_149 ?_
              refine r_iload C hl 11 rfl dL_arePointsSo_151 ?_
              refine r_icmp_le C dL_arePointsSo_153 hf (fun hf => ?_) (fun hf => ?_)
              · exact j167 o_67 _ _ _ P (lv_sub hl [1, 2, 3, 0, 4, 5, 6, 8, 9, 10] rfl) hf
              · refine r_iload C hl 10 rfl dL_arePointsSo_156 ?_
                refine r_iload C hl 12 rfl dL_arePointsSo_158 ?_
                refine r_icmp_eq C dL_arePointsSo_160 hf (fun hf => ?_) (fun hf => ?_)
                · exact j167 o_67 _ _ _ P (lv_sub hl [1, 2, 3, 0, 4, 5, 6, 8, 9, 10] rfl) hf
                · refine r_iconst C (v := 1) (by decide) dL_arePointsSo_163 ?_
                  refine r_goto C dL_arePointsSo_164 ?_
                  exact j168 o_67 ((1 : Int32)) _ _ _ P (lv_sub hl [1, 2, 3, 0, 4, 5, 6, 8, 9, 10] rfl) hf
        refine r_icmp_le C dL_arePointsSo_110 hf (fun hf => ?_) (fun hf => ?_)
        · refine r_iload_n C hl 7 rfl rfl dL_arePointsSo_121 ?_
          exact j122 v3_19 _ _ _ P (lv_sub hl [4, 5, 6, 8, 9, 10, 11, 12, 3, 2, 1, 0] rfl) hf
        · refine r_iload C hl 3 rfl dL_arePointsSo_113 ?_
          refine r_iload C hl 1 rfl dL_arePointsSo_115 ?_
          refine r_isub C dL_arePointsSo_117 ?_
          refine r_goto C dL_arePointsSo_118 ?_
          exact j122 (r_26 - r_56) _ _ _ P (lv_sub hl [4, 5, 6, 8, 9, 10, 11, 12, 3, 2, 1, 0] rfl) hf
set_option maxHeartbeats 4000000 in
set_option maxRecDepth 100000 in
theorem wL_arePointsSo {G : Gd} {p : Program} {l : Launch} {e : Env} {s : State} {m : MethodId} {args : Array Value} {below : List Frame} {meth : Method} {c : Code} {o : OM} {H : Heap} {L0 : List Loc} {ls : Array Slot} {r : Int32} {o9 : OM} {v1 : Int32} (C : Cx G RL cL_arePointsSo 13 (some .boolean) p s m args meth c) (X : XW G s) (hl9 : l.stackTraces = false)  (P : Hp G o s H L0) (hl : lv_has ls 13 [(0, .ref (rA G 0 0)), (1, .int v1)]) (hf : F_L_arePointsSo o v1 = some (r, o9)) : W p l e rmL_arePointsSo s m args below meth c H L0 0 0 (Qm G (some (.int r)) o9 rmL_arePointsSo below args s) (F0 m 0 ls []) := by
  unfold F_L_arePointsSo at hf
  refine r_aload_n C hl 0 rfl rfl dL_arePointsSo_0 ?_
  refine r_iload_n C hl 1 rfl rfl dL_arePointsSo_1 ?_
  refine r_iconst C (v := 3) (by decide) dL_arePointsSo_2 ?_
  refine m_cVi C X P cf_L_61 (rm := rmX5_thermometer) rfl [.int v1, .int ((3 : Int32))] [] hf (fun _ _ h => ctX5_thermometer l G hl9 o v1 ((3 : Int32)) h) ⟨Nat.le_of_ble_eq_true rfl, Nat.le_of_ble_eq_true rfl⟩ ⟨Nat.le_of_ble_eq_true rfl, Nat.le_of_ble_eq_true rfl⟩ rfl rfl hl.1 (Nat.le_of_ble_eq_true rfl) dL_arePointsSo_3 (fun r_1 o_2 H1 L1 P hf => ?_)
  refine r_istore_n C [(2, .int r_1), (0, .ref (rA G 0 0)), (1, .int v1)] hl (by decide) rfl rfl dL_arePointsSo_6 (fun ls hl => ?_)
  refine r_iconst C (v := 0) (by decide) dL_arePointsSo_7 ?_
  refine r_istore_n C [(3, .int ((0 : Int32))), (2, .int r_1), (0, .ref (rA G 0 0)), (1, .int v1)] hl (by decide) rfl rfl dL_arePointsSo_8 (fun ls hl => ?_)
  refine r_iconst C (v := 0) (by decide) dL_arePointsSo_9 ?_
  refine r_istore C [(4, .int ((0 : Int32))), (3, .int ((0 : Int32))), (2, .int r_1), (0, .ref (rA G 0 0)), (1, .int v1)] hl (by decide) rfl dL_arePointsSo_10 (fun ls hl => ?_)
  refine r_iconst C (v := 0) (by decide) dL_arePointsSo_12 ?_
  refine r_istore C [(5, .int ((0 : Int32))), (4, .int ((0 : Int32))), (3, .int ((0 : Int32))), (2, .int r_1), (0, .ref (rA G 0 0)), (1, .int v1)] hl (by decide) rfl dL_arePointsSo_13 (fun ls hl => ?_)
  refine r_iconst C (v := 0) (by decide) dL_arePointsSo_15 ?_
  refine r_istore C [(6, .int ((0 : Int32))), (5, .int ((0 : Int32))), (4, .int ((0 : Int32))), (3, .int ((0 : Int32))), (2, .int r_1), (0, .ref (rA G 0 0)), (1, .int v1)] hl (by decide) rfl dL_arePointsSo_16 (fun ls hl => ?_)
  refine r_iload_n C hl 4 rfl rfl dL_arePointsSo_18 ?_
  refine r_jn (fun k44 : OM → Int32 → Option (Int32 × OM) => ∀ (o_4 : OM) (s_3 : Int32) H1 L1 ls, Hp G o_4 s H1 L1 → lv_has ls 13 [(0, .ref (rA G 0 0)), (1, .int v1), (2, .int r_1), (3, .int ((0 : Int32))), (4, .int ((0 : Int32))), (5, .int ((0 : Int32))), (6, .int ((0 : Int32)))] → k44 o_4 s_3 = some (r, o9) → W p l e rmL_arePointsSo s m args below meth c H1 L1 0 0 (Qm G (some (.int r)) o9 rmL_arePointsSo below args s) (F0 m 44 ls [.int s_3])) hf ?_ (fun k44 j44 hf => ?_)
  · intro o_4 s_3 H1 L1 ls  P hl hf
    refine r_istore C [(7, .int s_3), (0, .ref (rA G 0 0)), (1, .int v1), (2, .int r_1), (3, .int ((0 : Int32))), (4, .int ((0 : Int32))), (5, .int ((0 : Int32))), (6, .int ((0 : Int32)))] hl (by decide) rfl dL_arePointsSo_44 (fun ls hl => ?_)
    refine r_iconst C (v := 0) (by decide) dL_arePointsSo_46 ?_
    refine r_istore C [(8, .int ((0 : Int32))), (7, .int s_3), (0, .ref (rA G 0 0)), (1, .int v1), (2, .int r_1), (3, .int ((0 : Int32))), (4, .int ((0 : Int32))), (5, .int ((0 : Int32))), (6, .int ((0 : Int32)))] hl (by decide) rfl dL_arePointsSo_47 (fun ls hl => ?_)
    refine r_jn (fun k329 : OM → Int32 → Int32 → Int32 → Int32 → Int32 → Option (Int32 × OM) => ∀ (o_10 : OM) (v3_5 : Int32) (v4_6 : Int32) (v5_7 : Int32) (v6_8 : Int32) (v7_9 : Int32) H1 L1 ls, Hp G o_10 s H1 L1 → lv_has ls 13 [(0, .ref (rA G 0 0)), (1, .int v1), (2, .int r_1), (3, .int v3_5), (4, .int v4_6), (5, .int v5_7), (6, .int v6_8), (7, .int v7_9)] → k329 o_10 v3_5 v4_6 v5_7 v6_8 v7_9 = some (r, o9) → W p l e rmL_arePointsSo s m args below meth c H1 L1 0 0 (Qm G (some (.int r)) o9 rmL_arePointsSo below args s) (F0 m 329 ls [])) hf ?_ (fun k329 j329 hf => ?_)
    · intro o_10 v3_5 v4_6 v5_7 v6_8 v7_9 H1 L1 ls  P hl hf
      refine r_iload C hl 7 rfl dL_arePointsSo_329 ?_
      refine r_jn (fun k392 : OM → Int32 → Option (Int32 × OM) => ∀ (o_12 : OM) (s_11 : Int32) H1 L1 ls, Hp G o_12 s H1 L1 → lv_has ls 13 [] → k392 o_12 s_11 = some (r, o9) → W p l e rmL_arePointsSo s m args below meth c H1 L1 0 0 (Qm G (some (.int r)) o9 rmL_arePointsSo below args s) (F0 m 392 ls [.int s_11])) hf ?_ (fun k392 j392 hf => ?_)
      · intro o_12 s_11 H1 L1 ls  P hl hf
        exact r_zret C P (rm := rmL_arePointsSo) ⟨rfl, rfl⟩ dL_arePointsSo_392 hf
      refine r_jn (fun k391 : OM → Option (Int32 × OM) => ∀ (o_13 : OM) H1 L1 ls, Hp G o_13 s H1 L1 → lv_has ls 13 [] → k391 o_13 = some (r, o9) → W p l e rmL_arePointsSo s m args below meth c H1 L1 0 0 (Qm G (some (.int r)) o9 rmL_arePointsSo below args s) (F0 m 391 ls [])) hf ?_ (fun k391 j391 hf => ?_)
      · intro o_13 H1 L1 ls  P hl hf
        refine r_iconst C (v := 0) (by decide) dL_arePointsSo_391 ?_
        exact j392 o_13 ((0 : Int32)) _ _ _ P (lv_sub hl [] rfl) hf
      refine r_if_eq C dL_arePointsSo_331 hf (fun hf => ?_) (fun hf => ?_)
      · exact j391 o_10 _ _ _ P (lv_sub hl [] rfl) hf
      · refine r_iload C hl 5 rfl dL_arePointsSo_334 ?_
        refine r_iload_n C hl 2 rfl rfl dL_arePointsSo_336 ?_
        refine r_jn (fun k345 : Int32 → Option (Int32 × OM) => ∀ (s_14 : Int32) H1 L1 ls, Hp G o_10 s H1 L1 → lv_has ls 13 [(0, .ref (rA G 0 0)), (1, .int v1), (2, .int r_1), (3, .int v3_5), (4, .int v4_6), (6, .int v6_8)] → k345 s_14 = some (r, o9) → W p l e rmL_arePointsSo s m args below meth c H1 L1 0 0 (Qm G (some (.int r)) o9 rmL_arePointsSo below args s) (F0 m 345 ls [.int s_14, .int v5_7])) hf ?_ (fun k345 j345 hf => ?_)
        · intro s_14 H1 L1 ls  P hl hf
          refine r_icmp_ne C dL_arePointsSo_345 hf (fun hf => ?_) (fun hf => ?_)
          · exact j391 o_10 _ _ _ P (lv_sub hl [] rfl) hf
          · refine r_aload_n C hl 0 rfl rfl dL_arePointsSo_348 ?_
            refine r_iload_n C hl 1 rfl rfl dL_arePointsSo_349 ?_
            refine r_iconst C (v := 4) (by decide) dL_arePointsSo_350 ?_
            refine m_cVi C X P cf_L_61 (rm := rmX5_thermometer) rfl [.int v1, .int ((4 : Int32))] [] hf (fun _ _ h => ctX5_thermometer l G hl9 o_10 v1 ((4 : Int32)) h) ⟨Nat.le_of_ble_eq_true rfl, Nat.le_of_ble_eq_true rfl⟩ ⟨Nat.le_of_ble_eq_true rfl, Nat.le_of_ble_eq_true rfl⟩ rfl rfl hl.1 (Nat.le_of_ble_eq_true rfl) dL_arePointsSo_351 (fun r_15 o_16 H1 L1 P hf => ?_)
            refine r_iload C hl 4 rfl dL_arePointsSo_354 ?_
            refine r_icmp_ne C dL_arePointsSo_356 hf (fun hf => ?_) (fun hf => ?_)
            · exact j391 o_16 _ _ _ P (lv_sub hl [] rfl) hf
            · refine r_iload_n C hl 2 rfl rfl dL_arePointsSo_359 ?_
              refine r_jn (fun k376 : Unit → Option (Int32 × OM) => ∀ H1 L1 ls, Hp G o_16 s H1 L1 → lv_has ls 13 [(0, .ref (rA G 0 0)), (1, .int v1), (3, .int v3_5)] → k376 () = some (r, o9) → W p l e rmL_arePointsSo s m args below meth c H1 L1 0 0 (Qm G (some (.int r)) o9 rmL_arePointsSo below args s) (F0 m 376 ls [])) hf ?_ (fun k376 j376 hf => ?_)
              · intro  H1 L1 ls  P hl hf
                refine r_aload_n C hl 0 rfl rfl dL_arePointsSo_376 ?_
                refine r_iload_n C hl 1 rfl rfl dL_arePointsSo_377 ?_
                refine r_bipush C (v := 8) (by decide) dL_arePointsSo_378 ?_
                refine m_cVi C X P cf_L_61 (rm := rmX5_thermometer) rfl [.int v1, .int ((8 : Int32))] [] hf (fun _ _ h => ctX5_thermometer l G hl9 o_16 v1 ((8 : Int32)) h) ⟨Nat.le_of_ble_eq_true rfl, Nat.le_of_ble_eq_true rfl⟩ ⟨Nat.le_of_ble_eq_true rfl, Nat.le_of_ble_eq_true rfl⟩ rfl rfl hl.1 (Nat.le_of_ble_eq_true rfl) dL_arePointsSo_380 (fun r_17 o_18 H1 L1 P hf => ?_)
                refine r_iload_n C hl 2 rfl rfl dL_arePointsSo_383 ?_
                refine r_icmp_ne C dL_arePointsSo_384 hf (fun hf => ?_) (fun hf => ?_)
                · exact j391 o_18 _ _ _ P (lv_sub hl [] rfl) hf
                · refine r_iconst C (v := 1) (by decide) dL_arePointsSo_387 ?_
                  refine r_goto C dL_arePointsSo_388 ?_
                  exact j392 o_18 ((1 : Int32)) _ _ _ P (lv_sub hl [] rfl) hf
              refine r_if_eq C dL_arePointsSo_360 hf (fun hf => ?_) (fun hf => ?_)
              · exact j376  _ _ _ P (lv_sub hl [0, 1, 3] rfl) hf
              · refine r_iload C hl 5 rfl dL_arePointsSo_363 ?_
                refine r_iconst C (v := 1) (by decide) dL_arePointsSo_365 ?_
                refine r_iload C hl 4 rfl dL_arePointsSo_366 ?_
                refine r_iconst C (v := 1) (by decide) dL_arePointsSo_368 ?_
                refine r_iadd2 C dL_arePointsSo_369 ?_
                refine r_ishl C dL_arePointsSo_370 ?_
                refine r_iconst C (v := 2) (by decide) dL_arePointsSo_371 ?_
                refine r_isub C dL_arePointsSo_372 ?_
                refine r_icmp_ne C dL_arePointsSo_373 hf (fun hf => ?_) (fun hf => ?_)
                · exact j391 o_16 _ _ _ P (lv_sub hl [] rfl) hf
                · exact j376  _ _ _ P (lv_sub hl [0, 1, 3] rfl) hf
        refine r_if_le C dL_arePointsSo_337 hf (fun hf => ?_) (fun hf => ?_)
        · refine r_iconst C (v := 0) (by decide) dL_arePointsSo_344 ?_
          exact j345 ((0 : Int32)) _ _ _ P (lv_sub hl [0, 1, 2, 3, 4, 6] rfl) hf
        · refine r_iconst C (v := 1) (by decide) dL_arePointsSo_340 ?_
          refine r_goto C dL_arePointsSo_341 ?_
          exact j345 ((1 : Int32)) _ _ _ P (lv_sub hl [0, 1, 2, 3, 4, 6] rfl) hf
    exact lL_arePointsSo_49 C X hl9  j329 FU o_4 ((0 : Int32)) ((0 : Int32)) ((0 : Int32)) ((0 : Int32)) s_3 ((0 : Int32)) _ _ _ P (lv_sub hl [2, 3, 4, 5, 6, 7, 8, 1, 0] rfl) hf
  refine r_jn (fun k43 : OM → Option (Int32 × OM) => ∀ (o_68 : OM) H1 L1 ls, Hp G o_68 s H1 L1 → lv_has ls 13 [(0, .ref (rA G 0 0)), (1, .int v1), (2, .int r_1), (3, .int ((0 : Int32))), (4, .int ((0 : Int32))), (5, .int ((0 : Int32))), (6, .int ((0 : Int32)))] → k43 o_68 = some (r, o9) → W p l e rmL_arePointsSo s m args below meth c H1 L1 0 0 (Qm G (some (.int r)) o9 rmL_arePointsSo below args s) (F0 m 43 ls [])) hf ?_ (fun k43 j43 hf => ?_)
  · intro o_68 H1 L1 ls  P hl hf
    refine r_iconst C (v := 0) (by decide) dL_arePointsSo_43 ?_
    exact j44 o_68 ((0 : Int32)) _ _ _ P (lv_sub hl [0, 1, 2, 3, 4, 5, 6] rfl) hf
  refine r_if_lt C dL_arePointsSo_19 hf (fun hf => ?_) (fun hf => ?_)
  · exact j43 o_2 _ _ _ P (lv_sub hl [5, 6, 4, 3, 2, 1, 0] rfl) hf
  · refine r_iload_n C hl 4 rfl rfl dL_arePointsSo_22 ?_
    refine r_bipush C (v := 10) (by decide) dL_arePointsSo_23 ?_
    refine r_icmp_gt C dL_arePointsSo_25 hf (fun hf => ?_) (fun hf => ?_)
    · exact j43 o_2 _ _ _ P (lv_sub hl [5, 6, 4, 3, 2, 1, 0] rfl) hf
    · refine r_aload_n C hl 5 rfl rfl dL_arePointsSo_28 ?_
      refine r_iload_n C hl 6 rfl rfl dL_arePointsSo_29 ?_
      refine r_iload_n C hl 4 rfl rfl dL_arePointsSo_30 ?_
      refine r_iconst C (v := 1) (by decide) dL_arePointsSo_31 ?_
      refine m_cVi C X P cf_L_64 (rm := rmX5_point) rfl [.int v1, .int r_1, .int ((1 : Int32))] [] hf (fun _ _ h => ctX5_point l G hl9 o_2 v1 r_1 ((1 : Int32)) h) ⟨Nat.le_of_ble_eq_true rfl, Nat.le_of_ble_eq_true rfl⟩ ⟨Nat.le_of_ble_eq_true rfl, Nat.le_of_ble_eq_true rfl⟩ rfl rfl hl.1 (Nat.le_of_ble_eq_true rfl) dL_arePointsSo_32 (fun r_69 o_70 H1 L1 P hf => ?_)
      refine r_iconst C (v := -1) (by decide) dL_arePointsSo_35 ?_
      refine r_icmp_ne C dL_arePointsSo_36 hf (fun hf => ?_) (fun hf => ?_)
      · exact j43 o_70 _ _ _ P (lv_sub hl [5, 6, 4, 3, 2, 1, 0] rfl) hf
      · refine r_iconst C (v := 1) (by decide) dL_arePointsSo_39 ?_
        refine r_goto C dL_arePointsSo_40 ?_
        exact j44 o_70 ((1 : Int32)) _ _ _ P (lv_sub hl [5, 6, 4, 3, 2, 1, 0] rfl) hf
theorem ctL_arePointsSo (l : Launch) (G : Gd) (hl9 : l.stackTraces = false) (o : OM) (v1 : Int32)  {r : Int32} {o9 : OM} (hf : F_L_arePointsSo o v1 = some (r, o9)) : Ctm l yL_arePointsSo cL_arePointsSo 13 (some .boolean) rmL_arePointsSo G [.ref (rA G 0 0), .int v1] o (some (.int r)) o9 := ctm_of (by decide +kernel) (Nat.le_of_ble_eq_true rfl) (fun p e s m below meth c ls C X P hl => wL_arePointsSo C X hl9  P hl hf)
