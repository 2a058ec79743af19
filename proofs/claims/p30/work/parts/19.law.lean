theorem e24 {G : Gd} (h : aN G = 470) : rA G 24 0 = rA (pG G) 24 0 := by
  show G.1 + 470 + aN G = G.1 + 470 + 470 + 0
  rw [h]
theorem law_w {p : Program} {l : Launch} {e : Env} {R : Room} {s : State} {m : MethodId} {args : Array Value} {below : List Frame} {meth : Method} {c : Code} {H : Heap} {locs : List Loc} {c1 s1 c2 s2 : Nat} {Q : State → Prop} {g : JFrame} (hc : c1 ≤ c2) (hs : s1 ≤ s2) (h : W p l e R s m args below meth c H locs c2 s2 Q g) : W p l e R s m args below meth c H locs c1 s1 Q g := W.widen hc hs h
theorem cf_L_92 : CallF true RL 92 yL_cell cL_cell 2 (some .int) 2 := ⟨wd_354, (by rw [if_pos rfl]; exact wd_355), wd_9, wd_356, by decide, by decide +kernel⟩
theorem cf_L_96 : CallF true RL 96 yL_act cL_act 8 (some .int) 3 := ⟨wd_361, (by rw [if_pos rfl]; exact wd_362), wd_9, wd_363, by decide, by decide +kernel⟩
theorem cf_L_100 : CallF true RL 100 yL_areAlike cL_areAlike 4 (some .boolean) 2 := ⟨wd_562, (by rw [if_pos rfl]; exact wd_563), wd_9, wd_564, by decide, by decide +kernel⟩
theorem cf_L_104 : CallF true RL 104 yL_areSums cL_areSums 7 (some .boolean) 1 := ⟨wd_638, (by rw [if_pos rfl]; exact wd_639), wd_9, wd_640, by decide, by decide +kernel⟩
theorem cf_L_108 : CallF true RL 108 yL_arePointsSo cL_arePointsSo 13 (some .boolean) 2 := ⟨wd_593, (by rw [if_pos rfl]; exact wd_594), wd_9, wd_595, by decide, by decide +kernel⟩
theorem cf_L_112 : CallF true RL 112 yL_areReadingsSo cL_areReadingsSo 13 (some .boolean) 3 := ⟨wd_609, (by rw [if_pos rfl]; exact wd_610), wd_9, wd_611, by decide, by decide +kernel⟩
theorem cf_L_116 : CallF true RL 116 yL_arePapersSo cL_arePapersSo 10 (some .boolean) 3 := ⟨wd_626, (by rw [if_pos rfl]; exact wd_627), wd_9, wd_628, by decide, by decide +kernel⟩
theorem dL_law_23 : Dc cL_law 23 (.iload 4) 2 25 := ⟨by decide +kernel, rfl⟩
theorem dL_law_25 : Dc cL_law 25 (.bipush 56) 2 27 := ⟨by decide +kernel, rfl⟩
theorem dL_law_27 : Dj cL_law 27 (.if_icmp .ge 283) 3 30 (283) 310 := ⟨by decide +kernel, rfl, by decide⟩
theorem dL_law_30 : Dc cL_law 30 (.iload 4) 2 32 := ⟨by decide +kernel, rfl⟩
theorem dL_law_32 : Dc cL_law 32 (.iconst 2) 1 33 := ⟨by decide +kernel, rfl⟩
theorem dL_law_33 : Dj cL_law 33 (.if_icmp .ge 15) 3 36 (15) 48 := ⟨by decide +kernel, rfl, by decide⟩
theorem dL_law_36 : Dc cL_law 36 (.aload_n 0) 1 37 := ⟨by decide +kernel, rfl⟩
theorem dL_law_37 : Dc cL_law 37 (.iload 4) 2 39 := ⟨by decide +kernel, rfl⟩
theorem dL_law_39 : Dc cL_law 39 (.invokestatic 92) 3 42 := ⟨by decide +kernel, rfl⟩
theorem dL_law_42 : Dc cL_law 42 (.bipush (-32)) 2 44 := ⟨by decide +kernel, rfl⟩
theorem dL_law_44 : Dc cL_law 44 (.iand) 1 45 := ⟨by decide +kernel, rfl⟩
theorem dL_law_45 : Dj cL_law 45 (.goto 9) 3 48 (9) 54 := ⟨by decide +kernel, rfl, by decide⟩
theorem dL_law_48 : Dc cL_law 48 (.aload_n 0) 1 49 := ⟨by decide +kernel, rfl⟩
theorem dL_law_49 : Dc cL_law 49 (.iload 4) 2 51 := ⟨by decide +kernel, rfl⟩
theorem dL_law_51 : Dc cL_law 51 (.invokestatic 92) 3 54 := ⟨by decide +kernel, rfl⟩
theorem dL_law_54 : Dc cL_law 54 (.istore 5) 2 56 := ⟨by decide +kernel, rfl⟩
theorem dL_law_56 : Dc cL_law 56 (.aload_n 1) 1 57 := ⟨by decide +kernel, rfl⟩
theorem dL_law_57 : Dc cL_law 57 (.bipush 17) 2 59 := ⟨by decide +kernel, rfl⟩
theorem dL_law_59 : Dc cL_law 59 (.invokevirtual 48) 3 62 := ⟨by decide +kernel, rfl⟩
theorem dL_law_62 : Dc cL_law 62 (.istore 6) 2 64 := ⟨by decide +kernel, rfl⟩
theorem dL_law_64 : Dc cL_law 64 (.aload_n 1) 1 65 := ⟨by decide +kernel, rfl⟩
theorem dL_law_65 : Dc cL_law 65 (.iload 5) 2 67 := ⟨by decide +kernel, rfl⟩
theorem dL_law_67 : Dc cL_law 67 (.aload_n 3) 1 68 := ⟨by decide +kernel, rfl⟩
theorem dL_law_68 : Dc cL_law 68 (.invokestatic 96) 3 71 := ⟨by decide +kernel, rfl⟩
theorem dL_law_71 : Dc cL_law 71 (.istore 7) 2 73 := ⟨by decide +kernel, rfl⟩
theorem dL_law_73 : Dc cL_law 73 (.aload_n 3) 1 74 := ⟨by decide +kernel, rfl⟩
theorem dL_law_74 : Dc cL_law 74 (.iconst 0) 1 75 := ⟨by decide +kernel, rfl⟩
theorem dL_law_75 : Dc cL_law 75 (.iaload) 1 76 := ⟨by decide +kernel, rfl⟩
theorem dL_law_76 : Dc cL_law 76 (.istore 8) 2 78 := ⟨by decide +kernel, rfl⟩
theorem dL_law_78 : Dc cL_law 78 (.iload 7) 2 80 := ⟨by decide +kernel, rfl⟩
theorem dL_law_80 : Dj cL_law 80 (.ifCond .eq 24) 3 83 (24) 104 := ⟨by decide +kernel, rfl, by decide⟩
theorem dL_law_83 : Dc cL_law 83 (.aload_n 1) 1 84 := ⟨by decide +kernel, rfl⟩
theorem dL_law_84 : Dc cL_law 84 (.aload_n 2) 1 85 := ⟨by decide +kernel, rfl⟩
theorem dL_law_85 : Dc cL_law 85 (.invokestatic 100) 3 88 := ⟨by decide +kernel, rfl⟩
theorem dL_law_88 : Dj cL_law 88 (.ifCond .eq 14) 3 91 (14) 102 := ⟨by decide +kernel, rfl, by decide⟩
theorem dL_law_91 : Dc cL_law 91 (.aload_n 1) 1 92 := ⟨by decide +kernel, rfl⟩
theorem dL_law_92 : Dc cL_law 92 (.bipush 17) 2 94 := ⟨by decide +kernel, rfl⟩
theorem dL_law_94 : Dc cL_law 94 (.invokevirtual 48) 3 97 := ⟨by decide +kernel, rfl⟩
theorem dL_law_97 : Dc cL_law 97 (.iload 6) 2 99 := ⟨by decide +kernel, rfl⟩
theorem dL_law_99 : Dj cL_law 99 (.if_icmp .eq 5) 3 102 (5) 104 := ⟨by decide +kernel, rfl, by decide⟩
theorem dL_law_102 : Dc cL_law 102 (.iconst 0) 1 103 := ⟨by decide +kernel, rfl⟩
theorem dL_law_103 : Dc cL_law 103 (.ireturn) 1 104 := ⟨by decide +kernel, rfl⟩
theorem dL_law_104 : Dc cL_law 104 (.iload 7) 2 106 := ⟨by decide +kernel, rfl⟩
theorem dL_law_106 : Dj cL_law 106 (.ifCond .ne 65) 3 109 (65) 171 := ⟨by decide +kernel, rfl, by decide⟩
theorem dL_law_109 : Dc cL_law 109 (.iload 5) 2 111 := ⟨by decide +kernel, rfl⟩
theorem dL_law_111 : Dc cL_law 111 (.bipush 9) 2 113 := ⟨by decide +kernel, rfl⟩
theorem dL_law_113 : Dc cL_law 113 (.ishr) 1 114 := ⟨by decide +kernel, rfl⟩
theorem dL_law_114 : Dc cL_law 114 (.iconst 1) 1 115 := ⟨by decide +kernel, rfl⟩
theorem dL_law_115 : Dc cL_law 115 (.iand) 1 116 := ⟨by decide +kernel, rfl⟩
theorem dL_law_116 : Dj cL_law 116 (.ifCond .ne 55) 3 119 (55) 171 := ⟨by decide +kernel, rfl, by decide⟩
theorem dL_law_119 : Dc cL_law 119 (.aload_n 1) 1 120 := ⟨by decide +kernel, rfl⟩
theorem dL_law_120 : Dc cL_law 120 (.invokevirtual 83) 3 123 := ⟨by decide +kernel, rfl⟩
theorem dL_law_123 : Dc cL_law 123 (.istore 9) 2 125 := ⟨by decide +kernel, rfl⟩
theorem dL_law_125 : Dc cL_law 125 (.iload 9) 2 127 := ⟨by decide +kernel, rfl⟩
theorem dL_law_127 : Dc cL_law 127 (.iload 6) 2 129 := ⟨by decide +kernel, rfl⟩
theorem dL_law_129 : Dc cL_law 129 (.bipush 6) 2 131 := ⟨by decide +kernel, rfl⟩
theorem dL_law_131 : Dj cL_law 131 (.if_icmp .ne 7) 3 134 (7) 138 := ⟨by decide +kernel, rfl, by decide⟩
theorem dL_law_134 : Dc cL_law 134 (.iconst 5) 1 135 := ⟨by decide +kernel, rfl⟩
theorem dL_law_135 : Dj cL_law 135 (.goto 5) 3 138 (5) 140 := ⟨by decide +kernel, rfl, by decide⟩
theorem dL_law_138 : Dc cL_law 138 (.iload 6) 2 140 := ⟨by decide +kernel, rfl⟩
theorem dL_law_140 : Dj cL_law 140 (.if_icmp .ne 29) 3 143 (29) 169 := ⟨by decide +kernel, rfl, by decide⟩
theorem dL_law_143 : Dc cL_law 143 (.aload_n 1) 1 144 := ⟨by decide +kernel, rfl⟩
theorem dL_law_144 : Dc cL_law 144 (.aload_n 2) 1 145 := ⟨by decide +kernel, rfl⟩
theorem dL_law_145 : Dc cL_law 145 (.invokestatic 100) 3 148 := ⟨by decide +kernel, rfl⟩
theorem dL_law_148 : Dj cL_law 148 (.ifCond .eq 21) 3 151 (21) 169 := ⟨by decide +kernel, rfl, by decide⟩
theorem dL_law_151 : Dc cL_law 151 (.aload_n 1) 1 152 := ⟨by decide +kernel, rfl⟩
theorem dL_law_152 : Dc cL_law 152 (.iload 5) 2 154 := ⟨by decide +kernel, rfl⟩
theorem dL_law_154 : Dc cL_law 154 (.aload_n 3) 1 155 := ⟨by decide +kernel, rfl⟩
theorem dL_law_155 : Dc cL_law 155 (.invokestatic 96) 3 158 := ⟨by decide +kernel, rfl⟩
theorem dL_law_158 : Dj cL_law 158 (.ifCond .ne 11) 3 161 (11) 169 := ⟨by decide +kernel, rfl, by decide⟩
theorem dL_law_161 : Dc cL_law 161 (.aload_n 3) 1 162 := ⟨by decide +kernel, rfl⟩
theorem dL_law_162 : Dc cL_law 162 (.iconst 0) 1 163 := ⟨by decide +kernel, rfl⟩
theorem dL_law_163 : Dc cL_law 163 (.iaload) 1 164 := ⟨by decide +kernel, rfl⟩
theorem dL_law_164 : Dc cL_law 164 (.iload 8) 2 166 := ⟨by decide +kernel, rfl⟩
theorem dL_law_166 : Dj cL_law 166 (.if_icmp .eq 5) 3 169 (5) 171 := ⟨by decide +kernel, rfl, by decide⟩
theorem dL_law_169 : Dc cL_law 169 (.iconst 0) 1 170 := ⟨by decide +kernel, rfl⟩
theorem dL_law_170 : Dc cL_law 170 (.ireturn) 1 171 := ⟨by decide +kernel, rfl⟩
theorem dL_law_171 : Dc cL_law 171 (.aload_n 2) 1 172 := ⟨by decide +kernel, rfl⟩
theorem dL_law_172 : Dc cL_law 172 (.iload 5) 2 174 := ⟨by decide +kernel, rfl⟩
theorem dL_law_174 : Dc cL_law 174 (.aload_n 3) 1 175 := ⟨by decide +kernel, rfl⟩
theorem dL_law_175 : Dc cL_law 175 (.invokestatic 96) 3 178 := ⟨by decide +kernel, rfl⟩
theorem dL_law_178 : Dc cL_law 178 (.iload 7) 2 180 := ⟨by decide +kernel, rfl⟩
theorem dL_law_180 : Dj cL_law 180 (.if_icmp .ne 39) 3 183 (39) 219 := ⟨by decide +kernel, rfl, by decide⟩
theorem dL_law_183 : Dc cL_law 183 (.iload 7) 2 185 := ⟨by decide +kernel, rfl⟩
theorem dL_law_185 : Dj cL_law 185 (.ifCond .ne 11) 3 188 (11) 196 := ⟨by decide +kernel, rfl, by decide⟩
theorem dL_law_188 : Dc cL_law 188 (.aload_n 3) 1 189 := ⟨by decide +kernel, rfl⟩
theorem dL_law_189 : Dc cL_law 189 (.iconst 0) 1 190 := ⟨by decide +kernel, rfl⟩
theorem dL_law_190 : Dc cL_law 190 (.iaload) 1 191 := ⟨by decide +kernel, rfl⟩
theorem dL_law_191 : Dc cL_law 191 (.iload 8) 2 193 := ⟨by decide +kernel, rfl⟩
theorem dL_law_193 : Dj cL_law 193 (.if_icmp .ne 26) 3 196 (26) 219 := ⟨by decide +kernel, rfl, by decide⟩
theorem dL_law_196 : Dc cL_law 196 (.aload_n 1) 1 197 := ⟨by decide +kernel, rfl⟩
theorem dL_law_197 : Dc cL_law 197 (.aload_n 2) 1 198 := ⟨by decide +kernel, rfl⟩
theorem dL_law_198 : Dc cL_law 198 (.invokestatic 100) 3 201 := ⟨by decide +kernel, rfl⟩
theorem dL_law_201 : Dj cL_law 201 (.ifCond .eq 18) 3 204 (18) 219 := ⟨by decide +kernel, rfl, by decide⟩
theorem dL_law_204 : Dc cL_law 204 (.iload 4) 2 206 := ⟨by decide +kernel, rfl⟩
theorem dL_law_206 : Dc cL_law 206 (.iconst 3) 1 207 := ⟨by decide +kernel, rfl⟩
theorem dL_law_207 : Dc cL_law 207 (.irem) 1 208 := ⟨by decide +kernel, rfl⟩
theorem dL_law_208 : Dc cL_law 208 (.iconst 2) 1 209 := ⟨by decide +kernel, rfl⟩
theorem dL_law_209 : Dj cL_law 209 (.if_icmp .ne 12) 3 212 (12) 221 := ⟨by decide +kernel, rfl, by decide⟩
theorem dL_law_212 : Dc cL_law 212 (.aload_n 1) 1 213 := ⟨by decide +kernel, rfl⟩
theorem dL_law_213 : Dc cL_law 213 (.invokestatic 104) 3 216 := ⟨by decide +kernel, rfl⟩
theorem dL_law_216 : Dj cL_law 216 (.ifCond .ne 5) 3 219 (5) 221 := ⟨by decide +kernel, rfl, by decide⟩
theorem dL_law_219 : Dc cL_law 219 (.iconst 0) 1 220 := ⟨by decide +kernel, rfl⟩
theorem dL_law_220 : Dc cL_law 220 (.ireturn) 1 221 := ⟨by decide +kernel, rfl⟩
theorem dL_law_221 : Dc cL_law 221 (.aload_n 1) 1 222 := ⟨by decide +kernel, rfl⟩
theorem dL_law_222 : Dc cL_law 222 (.iconst 1) 1 223 := ⟨by decide +kernel, rfl⟩
theorem dL_law_223 : Dc cL_law 223 (.invokevirtual 48) 3 226 := ⟨by decide +kernel, rfl⟩
theorem dL_law_226 : Dj cL_law 226 (.ifCond .ne 7) 3 229 (7) 233 := ⟨by decide +kernel, rfl, by decide⟩
theorem dL_law_229 : Dc cL_law 229 (.iconst (-1)) 1 230 := ⟨by decide +kernel, rfl⟩
theorem dL_law_230 : Dj cL_law 230 (.goto 16) 3 233 (16) 246 := ⟨by decide +kernel, rfl, by decide⟩
theorem dL_law_233 : Dc cL_law 233 (.iload 5) 2 235 := ⟨by decide +kernel, rfl⟩
theorem dL_law_235 : Dc cL_law 235 (.bipush 6) 2 237 := ⟨by decide +kernel, rfl⟩
theorem dL_law_237 : Dc cL_law 237 (.ishr) 1 238 := ⟨by decide +kernel, rfl⟩
theorem dL_law_238 : Dc cL_law 238 (.aload_n 1) 1 239 := ⟨by decide +kernel, rfl⟩
theorem dL_law_239 : Dc cL_law 239 (.iconst 1) 1 240 := ⟨by decide +kernel, rfl⟩
theorem dL_law_240 : Dc cL_law 240 (.invokevirtual 48) 3 243 := ⟨by decide +kernel, rfl⟩
theorem dL_law_243 : Dc cL_law 243 (.invokestatic 43) 3 246 := ⟨by decide +kernel, rfl⟩
theorem dL_law_246 : Dc cL_law 246 (.istore 9) 2 248 := ⟨by decide +kernel, rfl⟩
theorem dL_law_248 : Dc cL_law 248 (.iload 4) 2 250 := ⟨by decide +kernel, rfl⟩
theorem dL_law_250 : Dc cL_law 250 (.iconst 3) 1 251 := ⟨by decide +kernel, rfl⟩
theorem dL_law_251 : Dc cL_law 251 (.irem) 1 252 := ⟨by decide +kernel, rfl⟩
theorem dL_law_252 : Dc cL_law 252 (.iconst 2) 1 253 := ⟨by decide +kernel, rfl⟩
theorem dL_law_253 : Dj cL_law 253 (.if_icmp .ne 51) 3 256 (51) 304 := ⟨by decide +kernel, rfl, by decide⟩
theorem dL_law_256 : Dc cL_law 256 (.iload 9) 2 258 := ⟨by decide +kernel, rfl⟩
theorem dL_law_258 : Dj cL_law 258 (.ifCond .lt 46) 3 261 (46) 304 := ⟨by decide +kernel, rfl, by decide⟩
theorem dL_law_261 : Dc cL_law 261 (.aload_n 1) 1 262 := ⟨by decide +kernel, rfl⟩
theorem dL_law_262 : Dc cL_law 262 (.iload 9) 2 264 := ⟨by decide +kernel, rfl⟩
theorem dL_law_264 : Dc cL_law 264 (.invokestatic 108) 3 267 := ⟨by decide +kernel, rfl⟩
theorem dL_law_267 : Dj cL_law 267 (.ifCond .eq 35) 3 270 (35) 302 := ⟨by decide +kernel, rfl, by decide⟩
theorem dL_law_270 : Dc cL_law 270 (.aload_n 1) 1 271 := ⟨by decide +kernel, rfl⟩
theorem dL_law_271 : Dc cL_law 271 (.iload 9) 2 273 := ⟨by decide +kernel, rfl⟩
theorem dL_law_273 : Dc cL_law 273 (.iload 5) 2 275 := ⟨by decide +kernel, rfl⟩
theorem dL_law_275 : Dc cL_law 275 (.bipush 8) 2 277 := ⟨by decide +kernel, rfl⟩
theorem dL_law_277 : Dc cL_law 277 (.ishr) 1 278 := ⟨by decide +kernel, rfl⟩
theorem dL_law_278 : Dc cL_law 278 (.invokestatic 112) 3 281 := ⟨by decide +kernel, rfl⟩
theorem dL_law_281 : Dj cL_law 281 (.ifCond .eq 21) 3 284 (21) 302 := ⟨by decide +kernel, rfl, by decide⟩
theorem dL_law_284 : Dc cL_law 284 (.aload_n 1) 1 285 := ⟨by decide +kernel, rfl⟩
theorem dL_law_285 : Dc cL_law 285 (.iload 9) 2 287 := ⟨by decide +kernel, rfl⟩
theorem dL_law_287 : Dc cL_law 287 (.aload_n 3) 1 288 := ⟨by decide +kernel, rfl⟩
theorem dL_law_288 : Dc cL_law 288 (.invokestatic 116) 3 291 := ⟨by decide +kernel, rfl⟩
theorem dL_law_291 : Dj cL_law 291 (.ifCond .eq 11) 3 294 (11) 302 := ⟨by decide +kernel, rfl, by decide⟩
theorem dL_law_294 : Dc cL_law 294 (.aload_n 1) 1 295 := ⟨by decide +kernel, rfl⟩
theorem dL_law_295 : Dc cL_law 295 (.aload_n 2) 1 296 := ⟨by decide +kernel, rfl⟩
theorem dL_law_296 : Dc cL_law 296 (.invokestatic 100) 3 299 := ⟨by decide +kernel, rfl⟩
theorem dL_law_299 : Dj cL_law 299 (.ifCond .ne 5) 3 302 (5) 304 := ⟨by decide +kernel, rfl, by decide⟩
theorem dL_law_302 : Dc cL_law 302 (.iconst 0) 1 303 := ⟨by decide +kernel, rfl⟩
theorem dL_law_303 : Dc cL_law 303 (.ireturn) 1 304 := ⟨by decide +kernel, rfl⟩
theorem dL_law_304 : Dc cL_law 304 (.iinc 4 1) 3 307 := ⟨by decide +kernel, rfl⟩
theorem dL_law_307 : Dj cL_law 307 (.goto (-284)) 3 310 (-284) 23 := ⟨by decide +kernel, rfl, by decide⟩
theorem dL_law_310 : Dc cL_law 310 (.aload_n 1) 1 311 := ⟨by decide +kernel, rfl⟩
theorem dL_law_311 : Dc cL_law 311 (.invokestatic 104) 3 314 := ⟨by decide +kernel, rfl⟩
theorem dL_law_314 : Dc cL_law 314 (.ireturn) 1 315 := ⟨by decide +kernel, rfl⟩
def LL_law_23 (xs : Nat → Int32) (L : Nat) : Nat → OM2 → Int32 → Option Int32
  | 0 => fun _ _ => none
  | n + 1 => fun o_2 v4_1 => if ((56 : Int32)) ≤ v4_1 then (bn (on1 (F_L_areSums o_2.1) o_2) (fun r_3 o_4 => some r_3)) else (bd (fun (s_5 : Int32) => b0 (on1 (F_X5_count o_2.1 ((17 : Int32))) o_2) (fun r_6 o_7 => bn (on1 (F_L_act o_7.1 s_5) o_7) (fun r_8 o_9 => bd (rd o_9.1 24 0 0) (fun v8_10 : Int32 => bd (fun (o_11 : OM2) => bd (fun (o_12 : OM2) => bn (on2 (F_L_act o_12.2 s_5) o_12) (fun r_13 o_14 => bd (fun (o_15 : OM2) => some ((0 : Int32))) (fun k219 => if r_13 = r_8 then (bd (fun (_ : Unit) => bn (F_L_areAlike o_14) (fun r_16 o_17 => if r_16 = 0 then (k219 o_17) else (grd (decide (¬ ((3 : Int32)) = 0)) (bd (fun (o_18 : OM2) => b0 (on1 (F_X5_count o_18.1 ((1 : Int32))) o_18) (fun r_19 o_20 => bd (fun (o_22 : OM2) (s_21 : Int32) => grd (decide (¬ ((3 : Int32)) = 0)) (bd (fun (o_23 : OM2) => bd (v4_1 + (1 : Int32)) (fun v4_24 : Int32 => (LL_law_23 xs L n) o_23 v4_24)) (fun k304 => if (v4_1 - v4_1 / ((3 : Int32)) * ((3 : Int32))) = ((2 : Int32)) then (if s_21 < 0 then (k304 o_22) else (bn (on1 (F_L_arePointsSo o_22.1 s_21) o_22) (fun r_25 o_26 => bd (fun (o_27 : OM2) => some ((0 : Int32))) (fun k302 => if r_25 = 0 then (k302 o_26) else (bn (on1 (F_L_areReadingsSo o_26.1 s_21 (s_5 >>> (((8 : Int32)) &&& 31))) o_26) (fun r_28 o_29 => if r_28 = 0 then (k302 o_29) else (bn (on1 (F_L_arePapersSo o_29.1 s_21) o_29) (fun r_30 o_31 => if r_30 = 0 then (k302 o_31) else (bn (F_L_areAlike o_31) (fun r_32 o_33 => if r_32 = 0 then (k302 o_33) else (k304 o_33))))))))))) else (k304 o_22)))) (fun k246 => if r_19 = 0 then (k246 o_20 ((-1 : Int32))) else (b0 (on1 (F_X5_count o_20.1 ((1 : Int32))) o_20) (fun r_34 o_35 => bq (F_L_low o_35.1 (s_5 >>> (((6 : Int32)) &&& 31)) r_34) (fun r_36 => k246 o_35 r_36)))))) (fun k221 => if (v4_1 - v4_1 / ((3 : Int32)) * ((3 : Int32))) = ((2 : Int32)) then (bn (on1 (F_L_areSums o_17.1) o_17) (fun r_37 o_38 => if r_37 = 0 then (k219 o_38) else (k221 o_38))) else (k221 o_17)))))) (fun k196 => if r_8 = 0 then (if (rd o_14.1 24 0 0) = v8_10 then (k196 ()) else (k219 o_14)) else (k196 ()))) else (k219 o_14)))) (fun k171 => if r_8 = 0 then (if ((s_5 >>> (((9 : Int32)) &&& 31)) &&& ((1 : Int32))) = 0 then (b0 (on1 (F_X5_undo o_11.1) o_11) (fun r_39 o_40 => bd (fun (s_41 : Int32) => bd (fun (o_42 : OM2) => some ((0 : Int32))) (fun k169 => if r_39 = s_41 then (bn (F_L_areAlike o_40) (fun r_43 o_44 => if r_43 = 0 then (k169 o_44) else (bn (on1 (F_L_act o_44.1 s_5) o_44) (fun r_45 o_46 => if r_45 = 0 then (if (rd o_46.1 24 0 0) = v8_10 then (k171 o_46) else (k169 o_46)) else (k169 o_46))))) else (k169 o_40))) (fun k140 => if r_6 = ((6 : Int32)) then (k140 ((5 : Int32))) else (k140 r_6)))) else (k171 o_11)) else (k171 o_11))) (fun k104 => if r_8 = 0 then (k104 o_9) else (bn (F_L_areAlike o_9) (fun r_47 o_48 => bd (fun (o_49 : OM2) => some ((0 : Int32))) (fun k102 => if r_47 = 0 then (k102 o_48) else (b0 (on1 (F_X5_count o_48.1 ((17 : Int32))) o_48) (fun r_50 o_51 => if r_50 = r_6 then (k104 o_51) else (k102 o_51))))))))))) (fun k54 => if ((2 : Int32)) ≤ v4_1 then (bq (F_L_cell xs L v4_1) (fun r_52 => k54 r_52)) else (bq (F_L_cell xs L v4_1) (fun r_53 => k54 (r_53 &&& ((-32 : Int32)))))))
set_option maxHeartbeats 8000000 in
set_option maxRecDepth 100000 in
theorem lL_law {G : Gd} {p : Program} {l : Launch} {e : Env} {s : State} {m : MethodId} {args : Array Value} {below : List Frame} {meth : Method} {c : Code} {Q : State → Prop} {b L : Nat} {xs : Nat → Int32} (C : Cx G RL cL_law 10 (some .boolean) p s m args meth c) (X : X2 G s) (hl9 : l.stackTraces = false) (hX : va_X b L xs s s.heap) (hbl : b < s.heap.size) (hbA : ¬ frN G b) (hret : ∀ H L ls cl sl, va_S (frN G) s.heap H L → cl ≤ 621540 → sl ≤ 7236847 → W p l e room_1 s m args below meth c H L cl sl Q (F0 m 314 ls [.int 1])) : ∀ (n : Nat) (o_2 : OM2) (v4_1 : Int32) (cl sl : Nat) H1 L1 ls, cl + 4 * n + 8 ≤ 621540 → sl + 24 * n + 48 ≤ 7236847 → Hp2 G o_2 s H1 L1 → lv_has ls 10 [(0, .ref b), (1, .ref (rA G 0 0)), (2, .ref (rA (pG G) 0 0)), (3, .ref (rA G 24 0)), (4, .int v4_1)] → LL_law_23 xs L n o_2 v4_1 = some 1 → W p l e room_1 s m args below meth c H1 L1 cl sl Q (F0 m 23 ls []) := by
  intro n
  induction n with
  | zero =>
    intro o_2 v4_1 cl sl H1 L1 ls hc1 hc2 P hl hf
    exact nomatch hf
  | succ n ih =>
    intro o_2 v4_1 cl sl H1 L1 ls hc1 hc2 P hl hf
    rw [LL_law_23.eq_2] at hf
    have ec_act : rmL_act.cells = 1 := rfl
    have es_act : rmL_act.slots = 6 := rfl
    have ec_areSums : rmL_areSums.cells = 0 := rfl
    have es_areSums : rmL_areSums.slots = 0 := rfl
    have ec_arePointsSo : rmL_arePointsSo.cells = 0 := rfl
    have es_arePointsSo : rmL_arePointsSo.slots = 0 := rfl
    have ec_areReadingsSo : rmL_areReadingsSo.cells = 0 := rfl
    have es_areReadingsSo : rmL_areReadingsSo.slots = 0 := rfl
    have ec_arePapersSo : rmL_arePapersSo.cells = 1 := rfl
    have es_arePapersSo : rmL_arePapersSo.slots = 6 := rfl
    have ec_areAlike : rmL_areAlike.cells = 0 := rfl
    have es_areAlike : rmL_areAlike.slots = 0 := rfl
    refine r_iload C hl 4 rfl dL_law_23 ?_
    refine r_bipush C (v := 56) (by decide) dL_law_25 ?_
    refine r_icmp_ge C dL_law_27 hf (fun hf => ?_) (fun hf => ?_)
    · refine r_aload_n C hl 1 rfl rfl dL_law_310 ?_
      refine t_cS1 C X P cf_L_104 (rm := rmL_areSums) [.ref (rA G 0 0)] [] hf (fun _ _ h => ctL_areSums l G hl9 o_2.1 h) ⟨Nat.le_of_ble_eq_true rfl, Nat.le_of_ble_eq_true rfl⟩ ⟨by show _ ≤ 621540; omega, by show _ ≤ 7236847; omega⟩ rfl rfl hl.1 (Nat.le_of_ble_eq_true rfl) dL_law_311 (fun r_3 o_4 H1 L1 P hf => ?_)
      have he := Option.some.inj hf
      subst he
      exact hret _ _ _ _ _ P.2.2.1 (by omega) (by omega)
    · refine r_iload C hl 4 rfl dL_law_30 ?_
      refine r_iconst C (v := 2) (by decide) dL_law_32 ?_
      refine r_jn (fun k54 : Int32 → Option Int32 => ∀ (s_5 : Int32) H1 L1 ls, Hp2 G o_2 s H1 L1 → lv_has ls 10 [(0, .ref b), (1, .ref (rA G 0 0)), (2, .ref (rA (pG G) 0 0)), (3, .ref (rA G 24 0)), (4, .int v4_1)] → k54 s_5 = some 1 → W p l e room_1 s m args below meth c H1 L1 (cl + 0) (sl + 0) Q (F0 m 54 ls [.int s_5])) hf ?_ (fun k54 j54 hf => ?_)
      · intro s_5 H1 L1 ls  P hl hf
        refine r_istore C [(5, .int s_5), (0, .ref b), (1, .ref (rA G 0 0)), (2, .ref (rA (pG G) 0 0)), (3, .ref (rA G 24 0)), (4, .int v4_1)] hl (by decide) rfl dL_law_54 (fun ls hl => ?_)
        refine r_aload_n C hl 2 rfl rfl dL_law_56 ?_
        refine r_bipush C (v := 17) (by decide) dL_law_57 ?_
        refine t_cV1 C X P cf_L_48 (rm := rmX5_count) rfl [.int ((17 : Int32))] [] hf (fun _ _ h => ctX5_count l G hl9 o_2.1 ((17 : Int32)) h) ⟨Nat.le_of_ble_eq_true rfl, Nat.le_of_ble_eq_true rfl⟩ ⟨by show _ ≤ 621540; omega, by show _ ≤ 7236847; omega⟩ rfl rfl hl.1 (Nat.le_of_ble_eq_true rfl) dL_law_59 (fun r_6 o_7 H1 L1 P hf => ?_)
        refine r_istore C [(6, .int r_6), (5, .int s_5), (0, .ref b), (1, .ref (rA G 0 0)), (2, .ref (rA (pG G) 0 0)), (3, .ref (rA G 24 0)), (4, .int v4_1)] hl (by decide) rfl dL_law_62 (fun ls hl => ?_)
        refine r_aload_n C hl 3 rfl rfl dL_law_64 ?_
        refine r_iload C hl 1 rfl dL_law_65 ?_
        refine r_aload_n C hl 5 rfl rfl dL_law_67 ?_
        refine t_cS1 C X P cf_L_96 (rm := rmL_act) [.ref (rA G 0 0), .int s_5, .ref (rA G 24 0)] [] hf (fun _ _ h => ctL_act l G hl9 o_7.1 s_5 h) ⟨Nat.le_of_ble_eq_true rfl, Nat.le_of_ble_eq_true rfl⟩ ⟨by show _ ≤ 621540; omega, by show _ ≤ 7236847; omega⟩ rfl rfl hl.1 (Nat.le_of_ble_eq_true rfl) dL_law_68 (fun r_8 o_9 H1 L1 P hf => ?_)
        refine r_istore C [(7, .int r_8), (6, .int r_6), (5, .int s_5), (0, .ref b), (1, .ref (rA G 0 0)), (2, .ref (rA (pG G) 0 0)), (3, .ref (rA G 24 0)), (4, .int v4_1)] hl (by decide) rfl dL_law_71 (fun ls hl => ?_)
        refine r_aload_n C hl 6 rfl rfl dL_law_73 ?_
        refine r_iconst C (v := 0) (by decide) dL_law_74 ?_
        refine t_iald C P dL_law_75 ?_
        refine r_bdi hf (fun v8_10 hf => ?_)
        refine r_istore C [(8, .int v8_10), (7, .int r_8), (6, .int r_6), (5, .int s_5), (0, .ref b), (1, .ref (rA G 0 0)), (2, .ref (rA (pG G) 0 0)), (3, .ref (rA G 24 0)), (4, .int v4_1)] hl (by decide) rfl dL_law_76 (fun ls hl => ?_)
        refine r_iload C hl 1 rfl dL_law_78 ?_
        refine r_jn (fun k104 : OM2 → Option Int32 => ∀ (o_11 : OM2) H1 L1 ls, Hp2 G o_11 s H1 L1 → lv_has ls 10 [(0, .ref b), (1, .ref (rA G 0 0)), (2, .ref (rA (pG G) 0 0)), (3, .ref (rA G 24 0)), (4, .int v4_1), (5, .int s_5), (6, .int r_6), (7, .int r_8), (8, .int v8_10)] → k104 o_11 = some 1 → W p l e room_1 s m args below meth c H1 L1 (cl + 1) (sl + 6) Q (F0 m 104 ls [])) hf ?_ (fun k104 j104 hf => ?_)
        · intro o_11 H1 L1 ls  P hl hf
          refine r_iload C hl 7 rfl dL_law_104 ?_
          refine r_jn (fun k171 : OM2 → Option Int32 => ∀ (o_12 : OM2) H1 L1 ls, Hp2 G o_12 s H1 L1 → lv_has ls 10 [(0, .ref b), (1, .ref (rA G 0 0)), (2, .ref (rA (pG G) 0 0)), (3, .ref (rA G 24 0)), (4, .int v4_1), (5, .int s_5), (7, .int r_8), (8, .int v8_10)] → k171 o_12 = some 1 → W p l e room_1 s m args below meth c H1 L1 (cl + 2) (sl + 12) Q (F0 m 171 ls [])) hf ?_ (fun k171 j171 hf => ?_)
          · intro o_12 H1 L1 ls  P hl hf
            refine r_aload_n C hl 2 rfl rfl dL_law_171 ?_
            refine r_iload C hl 5 rfl dL_law_172 ?_
            refine r_aload_n C hl 3 rfl rfl dL_law_174 ?_
            refine t_cS2 C X P cf_L_96 (rm := rmL_act) [.ref (rA (pG G) 0 0), .int s_5, .ref (rA (pG G) 24 0)] [] hf (fun _ _ h => ctL_act l (pG G) hl9 o_12.2 s_5 h) ⟨Nat.le_of_ble_eq_true rfl, Nat.le_of_ble_eq_true rfl⟩ ⟨by show _ ≤ 621540; omega, by show _ ≤ 7236847; omega⟩ rfl (by rw [e24 P.2.2.2]; rfl) hl.1 (Nat.le_of_ble_eq_true rfl) dL_law_175 (fun r_13 o_14 H1 L1 P hf => ?_)
            refine r_iload C hl 6 rfl dL_law_178 ?_
            refine r_jn (fun k219 : OM2 → Option Int32 => ∀ (o_15 : OM2) H1 L1 ls, Hp2 G o_15 s H1 L1 → lv_has ls 10 [] → k219 o_15 = some 1 → W p l e room_1 s m args below meth c H1 L1 (cl + 3) (sl + 18) Q (F0 m 219 ls [])) hf ?_ (fun k219 j219 hf => ?_)
            · intro o_15 H1 L1 ls  P hl hf
              refine r_iconst C (v := 0) (by decide) dL_law_219 ?_
              exact absurd (Option.some.inj hf) (by decide)
            refine r_icmp_ne C dL_law_180 hf (fun hf => ?_) (fun hf => ?_)
            · refine law_w (c2 := cl + 3) (s2 := sl + 18) (by omega) (by omega) ?_
              exact j219 o_14 _ _ _ P (lv_sub hl [] rfl) hf
            · refine r_iload C hl 6 rfl dL_law_183 ?_
              refine r_jn (fun k196 : Unit → Option Int32 => ∀ H1 L1 ls, Hp2 G o_14 s H1 L1 → lv_has ls 10 [(0, .ref b), (1, .ref (rA G 0 0)), (2, .ref (rA (pG G) 0 0)), (3, .ref (rA G 24 0)), (4, .int v4_1), (5, .int s_5)] → k196 () = some 1 → W p l e room_1 s m args below meth c H1 L1 (cl + 3) (sl + 18) Q (F0 m 196 ls [])) hf ?_ (fun k196 j196 hf => ?_)
              · intro  H1 L1 ls  P hl hf
                refine r_aload_n C hl 1 rfl rfl dL_law_196 ?_
                refine r_aload_n C hl 2 rfl rfl dL_law_197 ?_
                refine t_c2 C X P cf_L_100 (rm := rmL_areAlike) [.ref (rA G 0 0), .ref (rA (pG G) 0 0)] [] hf (fun _ _ h => ctL_areAlike l G hl9 o_14 h) ⟨Nat.le_of_ble_eq_true rfl, Nat.le_of_ble_eq_true rfl⟩ ⟨by show _ ≤ 621540; omega, by show _ ≤ 7236847; omega⟩ rfl rfl hl.1 (Nat.le_of_ble_eq_true rfl) dL_law_198 (fun r_16 o_17 H1 L1 P hf => ?_)
                refine r_if_eq C dL_law_201 hf (fun hf => ?_) (fun hf => ?_)
                · refine law_w (c2 := cl + 3) (s2 := sl + 18) (by omega) (by omega) ?_
                  exact j219 o_17 _ _ _ P (lv_sub hl [] rfl) hf
                · refine r_iload C hl 4 rfl dL_law_204 ?_
                  refine r_iconst C (v := 3) (by decide) dL_law_206 ?_
                  refine r_irem C dL_law_207 hf (fun hf => ?_)
                  refine r_iconst C (v := 2) (by decide) dL_law_208 ?_
                  refine r_jn (fun k221 : OM2 → Option Int32 => ∀ (o_18 : OM2) H1 L1 ls, Hp2 G o_18 s H1 L1 → lv_has ls 10 [(0, .ref b), (1, .ref (rA G 0 0)), (2, .ref (rA (pG G) 0 0)), (3, .ref (rA G 24 0)), (4, .int v4_1), (5, .int s_5)] → k221 o_18 = some 1 → W p l e room_1 s m args below meth c H1 L1 (cl + 3) (sl + 18) Q (F0 m 221 ls [])) hf ?_ (fun k221 j221 hf => ?_)
                  · intro o_18 H1 L1 ls  P hl hf
                    refine r_aload_n C hl 1 rfl rfl dL_law_221 ?_
                    refine r_iconst C (v := 1) (by decide) dL_law_222 ?_
                    refine t_cV1 C X P cf_L_48 (rm := rmX5_count) rfl [.int ((1 : Int32))] [] hf (fun _ _ h => ctX5_count l G hl9 o_18.1 ((1 : Int32)) h) ⟨Nat.le_of_ble_eq_true rfl, Nat.le_of_ble_eq_true rfl⟩ ⟨by show _ ≤ 621540; omega, by show _ ≤ 7236847; omega⟩ rfl rfl hl.1 (Nat.le_of_ble_eq_true rfl) dL_law_223 (fun r_19 o_20 H1 L1 P hf => ?_)
                    refine r_jn (fun k246 : OM2 → Int32 → Option Int32 => ∀ (o_22 : OM2) (s_21 : Int32) H1 L1 ls, Hp2 G o_22 s H1 L1 → lv_has ls 10 [(0, .ref b), (1, .ref (rA G 0 0)), (2, .ref (rA (pG G) 0 0)), (3, .ref (rA G 24 0)), (4, .int v4_1), (5, .int s_5)] → k246 o_22 s_21 = some 1 → W p l e room_1 s m args below meth c H1 L1 (cl + 3) (sl + 18) Q (F0 m 246 ls [.int s_21])) hf ?_ (fun k246 j246 hf => ?_)
                    · intro o_22 s_21 H1 L1 ls  P hl hf
                      refine r_istore C [(9, .int s_21), (0, .ref b), (1, .ref (rA G 0 0)), (2, .ref (rA (pG G) 0 0)), (3, .ref (rA G 24 0)), (4, .int v4_1), (5, .int s_5)] hl (by decide) rfl dL_law_246 (fun ls hl => ?_)
                      refine r_iload C hl 5 rfl dL_law_248 ?_
                      refine r_iconst C (v := 3) (by decide) dL_law_250 ?_
                      refine r_irem C dL_law_251 hf (fun hf => ?_)
                      refine r_iconst C (v := 2) (by decide) dL_law_252 ?_
                      refine r_jn (fun k304 : OM2 → Option Int32 => ∀ (o_23 : OM2) H1 L1 ls, Hp2 G o_23 s H1 L1 → lv_has ls 10 [(0, .ref b), (1, .ref (rA G 0 0)), (2, .ref (rA (pG G) 0 0)), (3, .ref (rA G 24 0)), (4, .int v4_1)] → k304 o_23 = some 1 → W p l e room_1 s m args below meth c H1 L1 (cl + 4) (sl + 24) Q (F0 m 304 ls [])) hf ?_ (fun k304 j304 hf => ?_)
                      · intro o_23 H1 L1 ls  P hl hf
                        refine r_iinc C (fun v4_24 => [(4, .int v4_24), (0, .ref b), (1, .ref (rA G 0 0)), (2, .ref (rA (pG G) 0 0)), (3, .ref (rA G 24 0))]) (w := 1) 4 hl rfl (by decide) (by decide) (fun _ => rfl) dL_law_304 hf (fun v4_24 ls hl hf => ?_)
                        refine r_goto C dL_law_307 ?_
                        refine law_w (c2 := cl + 4) (s2 := sl + 24) (by omega) (by omega) ?_
                        exact ih o_23 v4_24 (cl + 4) (sl + 24) _ _ _ (by omega) (by omega) P (lv_sub hl [1, 2, 3, 4, 0] rfl) hf
                      refine r_icmp_ne C dL_law_253 hf (fun hf => ?_) (fun hf => ?_)
                      · refine law_w (c2 := cl + 4) (s2 := sl + 24) (by omega) (by omega) ?_
                        exact j304 o_22 _ _ _ P (lv_sub hl [1, 2, 3, 4, 5] rfl) hf
                      · refine r_iload C hl 0 rfl dL_law_256 ?_
                        refine r_if_lt C dL_law_258 hf (fun hf => ?_) (fun hf => ?_)
                        · refine law_w (c2 := cl + 4) (s2 := sl + 24) (by omega) (by omega) ?_
                          exact j304 o_22 _ _ _ P (lv_sub hl [1, 2, 3, 4, 5] rfl) hf
                        · refine r_aload_n C hl 2 rfl rfl dL_law_261 ?_
                          refine r_iload C hl 0 rfl dL_law_262 ?_
                          refine t_cS1 C X P cf_L_108 (rm := rmL_arePointsSo) [.ref (rA G 0 0), .int s_21] [] hf (fun _ _ h => ctL_arePointsSo l G hl9 o_22.1 s_21 h) ⟨Nat.le_of_ble_eq_true rfl, Nat.le_of_ble_eq_true rfl⟩ ⟨by show _ ≤ 621540; omega, by show _ ≤ 7236847; omega⟩ rfl rfl hl.1 (Nat.le_of_ble_eq_true rfl) dL_law_264 (fun r_25 o_26 H1 L1 P hf => ?_)
                          refine r_jn (fun k302 : OM2 → Option Int32 => ∀ (o_27 : OM2) H1 L1 ls, Hp2 G o_27 s H1 L1 → lv_has ls 10 [] → k302 o_27 = some 1 → W p l e room_1 s m args below meth c H1 L1 (cl + 4) (sl + 24) Q (F0 m 302 ls [])) hf ?_ (fun k302 j302 hf => ?_)
                          · intro o_27 H1 L1 ls  P hl hf
                            refine r_iconst C (v := 0) (by decide) dL_law_302 ?_
                            exact absurd (Option.some.inj hf) (by decide)
                          refine r_if_eq C dL_law_267 hf (fun hf => ?_) (fun hf => ?_)
                          · refine law_w (c2 := cl + 4) (s2 := sl + 24) (by omega) (by omega) ?_
                            exact j302 o_26 _ _ _ P (lv_sub hl [] rfl) hf
                          · refine r_aload_n C hl 2 rfl rfl dL_law_270 ?_
                            refine r_iload C hl 0 rfl dL_law_271 ?_
                            refine r_iload C hl 6 rfl dL_law_273 ?_
                            refine r_bipush C (v := 8) (by decide) dL_law_275 ?_
                            refine r_ishr C dL_law_277 ?_
                            refine t_cS1 C X P cf_L_112 (rm := rmL_areReadingsSo) [.ref (rA G 0 0), .int s_21, .int (s_5 >>> (((8 : Int32)) &&& 31))] [] hf (fun _ _ h => ctL_areReadingsSo l G hl9 o_26.1 s_21 (s_5 >>> (((8 : Int32)) &&& 31)) h) ⟨Nat.le_of_ble_eq_true rfl, Nat.le_of_ble_eq_true rfl⟩ ⟨by show _ ≤ 621540; omega, by show _ ≤ 7236847; omega⟩ rfl rfl hl.1 (Nat.le_of_ble_eq_true rfl) dL_law_278 (fun r_28 o_29 H1 L1 P hf => ?_)
                            refine r_if_eq C dL_law_281 hf (fun hf => ?_) (fun hf => ?_)
                            · refine law_w (c2 := cl + 4) (s2 := sl + 24) (by omega) (by omega) ?_
                              exact j302 o_29 _ _ _ P (lv_sub hl [] rfl) hf
                            · refine r_aload_n C hl 2 rfl rfl dL_law_284 ?_
                              refine r_iload C hl 0 rfl dL_law_285 ?_
                              refine r_aload_n C hl 4 rfl rfl dL_law_287 ?_
                              refine t_cS1 C X P cf_L_116 (rm := rmL_arePapersSo) [.ref (rA G 0 0), .int s_21, .ref (rA G 24 0)] [] hf (fun _ _ h => ctL_arePapersSo l G hl9 o_29.1 s_21 h) ⟨Nat.le_of_ble_eq_true rfl, Nat.le_of_ble_eq_true rfl⟩ ⟨by show _ ≤ 621540; omega, by show _ ≤ 7236847; omega⟩ rfl rfl hl.1 (Nat.le_of_ble_eq_true rfl) dL_law_288 (fun r_30 o_31 H1 L1 P hf => ?_)
                              refine r_if_eq C dL_law_291 hf (fun hf => ?_) (fun hf => ?_)
                              · refine law_w (c2 := cl + 4) (s2 := sl + 24) (by omega) (by omega) ?_
                                exact j302 o_31 _ _ _ P (lv_sub hl [] rfl) hf
                              · refine r_aload_n C hl 2 rfl rfl dL_law_294 ?_
                                refine r_aload_n C hl 3 rfl rfl dL_law_295 ?_
                                refine t_c2 C X P cf_L_100 (rm := rmL_areAlike) [.ref (rA G 0 0), .ref (rA (pG G) 0 0)] [] hf (fun _ _ h => ctL_areAlike l G hl9 o_31 h) ⟨Nat.le_of_ble_eq_true rfl, Nat.le_of_ble_eq_true rfl⟩ ⟨by show _ ≤ 621540; omega, by show _ ≤ 7236847; omega⟩ rfl rfl hl.1 (Nat.le_of_ble_eq_true rfl) dL_law_296 (fun r_32 o_33 H1 L1 P hf => ?_)
                                refine r_if_ne C dL_law_299 hf (fun hf => ?_) (fun hf => ?_)
                                · refine law_w (c2 := cl + 4) (s2 := sl + 24) (by omega) (by omega) ?_
                                  exact j304 o_33 _ _ _ P (lv_sub hl [1, 2, 3, 4, 5] rfl) hf
                                · refine law_w (c2 := cl + 4) (s2 := sl + 24) (by omega) (by omega) ?_
                                  exact j302 o_33 _ _ _ P (lv_sub hl [] rfl) hf
                    refine r_if_ne C dL_law_226 hf (fun hf => ?_) (fun hf => ?_)
                    · refine r_iload C hl 5 rfl dL_law_233 ?_
                      refine r_bipush C (v := 6) (by decide) dL_law_235 ?_
                      refine r_ishr C dL_law_237 ?_
                      refine r_aload_n C hl 1 rfl rfl dL_law_238 ?_
                      refine r_iconst C (v := 1) (by decide) dL_law_239 ?_
                      refine t_cV1 C X P cf_L_48 (rm := rmX5_count) rfl [.int ((1 : Int32))] [.int (s_5 >>> (((6 : Int32)) &&& 31))] hf (fun _ _ h => ctX5_count l G hl9 o_20.1 ((1 : Int32)) h) ⟨Nat.le_of_ble_eq_true rfl, Nat.le_of_ble_eq_true rfl⟩ ⟨by show _ ≤ 621540; omega, by show _ ≤ 7236847; omega⟩ rfl rfl hl.1 (Nat.le_of_ble_eq_true rfl) dL_law_240 (fun r_34 o_35 H1 L1 P hf => ?_)
                      refine t_qS C X P cf_L_43 (rm := rmL_low) [.int (s_5 >>> (((6 : Int32)) &&& 31)), .int r_34] [] hf (fun _ h => ctL_low l G o_35.1 (s_5 >>> (((6 : Int32)) &&& 31)) r_34 h) ⟨rfl, rfl⟩ ⟨Nat.le_of_ble_eq_true rfl, Nat.le_of_ble_eq_true rfl⟩ ⟨by show _ ≤ 621540; omega, by show _ ≤ 7236847; omega⟩ rfl rfl hl.1 (Nat.le_of_ble_eq_true rfl) dL_law_243 (fun r_36 H1 L1 P hf => ?_)
                      refine law_w (c2 := cl + 3) (s2 := sl + 18) (by omega) (by omega) ?_
                      exact j246 o_35 r_36 _ _ _ P (lv_sub hl [0, 1, 2, 3, 4, 5] rfl) hf
                    · refine r_iconst C (v := -1) (by decide) dL_law_229 ?_
                      refine r_goto C dL_law_230 ?_
                      refine law_w (c2 := cl + 3) (s2 := sl + 18) (by omega) (by omega) ?_
                      exact j246 o_20 ((-1 : Int32)) _ _ _ P (lv_sub hl [0, 1, 2, 3, 4, 5] rfl) hf
                  refine r_icmp_ne C dL_law_209 hf (fun hf => ?_) (fun hf => ?_)
                  · refine law_w (c2 := cl + 3) (s2 := sl + 18) (by omega) (by omega) ?_
                    exact j221 o_17 _ _ _ P (lv_sub hl [0, 1, 2, 3, 4, 5] rfl) hf
                  · refine r_aload_n C hl 1 rfl rfl dL_law_212 ?_
                    refine t_cS1 C X P cf_L_104 (rm := rmL_areSums) [.ref (rA G 0 0)] [] hf (fun _ _ h => ctL_areSums l G hl9 o_17.1 h) ⟨Nat.le_of_ble_eq_true rfl, Nat.le_of_ble_eq_true rfl⟩ ⟨by show _ ≤ 621540; omega, by show _ ≤ 7236847; omega⟩ rfl rfl hl.1 (Nat.le_of_ble_eq_true rfl) dL_law_213 (fun r_37 o_38 H1 L1 P hf => ?_)
                    refine r_if_ne C dL_law_216 hf (fun hf => ?_) (fun hf => ?_)
                    · refine law_w (c2 := cl + 3) (s2 := sl + 18) (by omega) (by omega) ?_
                      exact j221 o_38 _ _ _ P (lv_sub hl [0, 1, 2, 3, 4, 5] rfl) hf
                    · refine law_w (c2 := cl + 3) (s2 := sl + 18) (by omega) (by omega) ?_
                      exact j219 o_38 _ _ _ P (lv_sub hl [] rfl) hf
              refine r_if_ne C dL_law_185 hf (fun hf => ?_) (fun hf => ?_)
              · refine law_w (c2 := cl + 3) (s2 := sl + 18) (by omega) (by omega) ?_
                exact j196  _ _ _ P (lv_sub hl [0, 1, 2, 3, 4, 5] rfl) hf
              · refine r_aload_n C hl 3 rfl rfl dL_law_188 ?_
                refine r_iconst C (v := 0) (by decide) dL_law_189 ?_
                refine t_iald C P dL_law_190 ?_
                refine r_iload C hl 7 rfl dL_law_191 ?_
                refine r_icmp_ne C dL_law_193 hf (fun hf => ?_) (fun hf => ?_)
                · refine law_w (c2 := cl + 3) (s2 := sl + 18) (by omega) (by omega) ?_
                  exact j219 o_14 _ _ _ P (lv_sub hl [] rfl) hf
                · refine law_w (c2 := cl + 3) (s2 := sl + 18) (by omega) (by omega) ?_
                  exact j196  _ _ _ P (lv_sub hl [0, 1, 2, 3, 4, 5] rfl) hf
          refine r_if_ne C dL_law_106 hf (fun hf => ?_) (fun hf => ?_)
          · refine law_w (c2 := cl + 2) (s2 := sl + 12) (by omega) (by omega) ?_
            exact j171 o_11 _ _ _ P (lv_sub hl [0, 1, 2, 3, 4, 5, 7, 8] rfl) hf
          · refine r_iload C hl 5 rfl dL_law_109 ?_
            refine r_bipush C (v := 9) (by decide) dL_law_111 ?_
            refine r_ishr C dL_law_113 ?_
            refine r_iconst C (v := 1) (by decide) dL_law_114 ?_
            refine r_iand C dL_law_115 ?_
            refine r_if_ne C dL_law_116 hf (fun hf => ?_) (fun hf => ?_)
            · refine law_w (c2 := cl + 2) (s2 := sl + 12) (by omega) (by omega) ?_
              exact j171 o_11 _ _ _ P (lv_sub hl [0, 1, 2, 3, 4, 5, 7, 8] rfl) hf
            · refine r_aload_n C hl 1 rfl rfl dL_law_119 ?_
              refine t_cV1 C X P cf_L_83 (rm := rmX5_undo) rfl [] [] hf (fun _ _ h => ctX5_undo l G hl9 o_11.1 h) ⟨Nat.le_of_ble_eq_true rfl, Nat.le_of_ble_eq_true rfl⟩ ⟨by show _ ≤ 621540; omega, by show _ ≤ 7236847; omega⟩ rfl rfl hl.1 (Nat.le_of_ble_eq_true rfl) dL_law_120 (fun r_39 o_40 H1 L1 P hf => ?_)
              refine r_istore C [(9, .int r_39), (0, .ref b), (1, .ref (rA G 0 0)), (2, .ref (rA (pG G) 0 0)), (3, .ref (rA G 24 0)), (4, .int v4_1), (5, .int s_5), (6, .int r_6), (7, .int r_8), (8, .int v8_10)] hl (by decide) rfl dL_law_123 (fun ls hl => ?_)
              refine r_iload C hl 0 rfl dL_law_125 ?_
              refine r_iload C hl 7 rfl dL_law_127 ?_
              refine r_bipush C (v := 6) (by decide) dL_law_129 ?_
              refine r_jn (fun k140 : Int32 → Option Int32 => ∀ (s_41 : Int32) H1 L1 ls, Hp2 G o_40 s H1 L1 → lv_has ls 10 [(0, .ref b), (1, .ref (rA G 0 0)), (2, .ref (rA (pG G) 0 0)), (3, .ref (rA G 24 0)), (4, .int v4_1), (5, .int s_5), (7, .int r_8), (8, .int v8_10)] → k140 s_41 = some 1 → W p l e room_1 s m args below meth c H1 L1 (cl + 1) (sl + 6) Q (F0 m 140 ls [.int s_41, .int r_39])) hf ?_ (fun k140 j140 hf => ?_)
              · intro s_41 H1 L1 ls  P hl hf
                refine r_jn (fun k169 : OM2 → Option Int32 => ∀ (o_42 : OM2) H1 L1 ls, Hp2 G o_42 s H1 L1 → lv_has ls 10 [] → k169 o_42 = some 1 → W p l e room_1 s m args below meth c H1 L1 (cl + 2) (sl + 12) Q (F0 m 169 ls [])) hf ?_ (fun k169 j169 hf => ?_)
                · intro o_42 H1 L1 ls  P hl hf
                  refine r_iconst C (v := 0) (by decide) dL_law_169 ?_
                  exact absurd (Option.some.inj hf) (by decide)
                refine r_icmp_ne C dL_law_140 hf (fun hf => ?_) (fun hf => ?_)
                · refine law_w (c2 := cl + 2) (s2 := sl + 12) (by omega) (by omega) ?_
                  exact j169 o_40 _ _ _ P (lv_sub hl [] rfl) hf
                · refine r_aload_n C hl 1 rfl rfl dL_law_143 ?_
                  refine r_aload_n C hl 2 rfl rfl dL_law_144 ?_
                  refine t_c2 C X P cf_L_100 (rm := rmL_areAlike) [.ref (rA G 0 0), .ref (rA (pG G) 0 0)] [] hf (fun _ _ h => ctL_areAlike l G hl9 o_40 h) ⟨Nat.le_of_ble_eq_true rfl, Nat.le_of_ble_eq_true rfl⟩ ⟨by show _ ≤ 621540; omega, by show _ ≤ 7236847; omega⟩ rfl rfl hl.1 (Nat.le_of_ble_eq_true rfl) dL_law_145 (fun r_43 o_44 H1 L1 P hf => ?_)
                  refine r_if_eq C dL_law_148 hf (fun hf => ?_) (fun hf => ?_)
                  · refine law_w (c2 := cl + 2) (s2 := sl + 12) (by omega) (by omega) ?_
                    exact j169 o_44 _ _ _ P (lv_sub hl [] rfl) hf
                  · refine r_aload_n C hl 1 rfl rfl dL_law_151 ?_
                    refine r_iload C hl 5 rfl dL_law_152 ?_
                    refine r_aload_n C hl 3 rfl rfl dL_law_154 ?_
                    refine t_cS1 C X P cf_L_96 (rm := rmL_act) [.ref (rA G 0 0), .int s_5, .ref (rA G 24 0)] [] hf (fun _ _ h => ctL_act l G hl9 o_44.1 s_5 h) ⟨Nat.le_of_ble_eq_true rfl, Nat.le_of_ble_eq_true rfl⟩ ⟨by show _ ≤ 621540; omega, by show _ ≤ 7236847; omega⟩ rfl rfl hl.1 (Nat.le_of_ble_eq_true rfl) dL_law_155 (fun r_45 o_46 H1 L1 P hf => ?_)
                    refine r_if_ne C dL_law_158 hf (fun hf => ?_) (fun hf => ?_)
                    · refine law_w (c2 := cl + 2) (s2 := sl + 12) (by omega) (by omega) ?_
                      exact j169 o_46 _ _ _ P (lv_sub hl [] rfl) hf
                    · refine r_aload_n C hl 3 rfl rfl dL_law_161 ?_
                      refine r_iconst C (v := 0) (by decide) dL_law_162 ?_
                      refine t_iald C P dL_law_163 ?_
                      refine r_iload C hl 7 rfl dL_law_164 ?_
                      refine r_icmp_eq C dL_law_166 hf (fun hf => ?_) (fun hf => ?_)
                      · refine law_w (c2 := cl + 2) (s2 := sl + 12) (by omega) (by omega) ?_
                        exact j171 o_46 _ _ _ P (lv_sub hl [0, 1, 2, 3, 4, 5, 6, 7] rfl) hf
                      · refine law_w (c2 := cl + 2) (s2 := sl + 12) (by omega) (by omega) ?_
                        exact j169 o_46 _ _ _ P (lv_sub hl [] rfl) hf
              refine r_icmp_ne C dL_law_131 hf (fun hf => ?_) (fun hf => ?_)
              · refine r_iload C hl 7 rfl dL_law_138 ?_
                refine law_w (c2 := cl + 1) (s2 := sl + 6) (by omega) (by omega) ?_
                exact j140 r_6 _ _ _ P (lv_sub hl [1, 2, 3, 4, 5, 6, 8, 9] rfl) hf
              · refine r_iconst C (v := 5) (by decide) dL_law_134 ?_
                refine r_goto C dL_law_135 ?_
                refine law_w (c2 := cl + 1) (s2 := sl + 6) (by omega) (by omega) ?_
                exact j140 ((5 : Int32)) _ _ _ P (lv_sub hl [1, 2, 3, 4, 5, 6, 8, 9] rfl) hf
        refine r_if_eq C dL_law_80 hf (fun hf => ?_) (fun hf => ?_)
        · refine law_w (c2 := cl + 1) (s2 := sl + 6) (by omega) (by omega) ?_
          exact j104 o_9 _ _ _ P (lv_sub hl [4, 5, 6, 7, 8, 3, 2, 1, 0] rfl) hf
        · refine r_aload_n C hl 5 rfl rfl dL_law_83 ?_
          refine r_aload_n C hl 6 rfl rfl dL_law_84 ?_
          refine t_c2 C X P cf_L_100 (rm := rmL_areAlike) [.ref (rA G 0 0), .ref (rA (pG G) 0 0)] [] hf (fun _ _ h => ctL_areAlike l G hl9 o_9 h) ⟨Nat.le_of_ble_eq_true rfl, Nat.le_of_ble_eq_true rfl⟩ ⟨by show _ ≤ 621540; omega, by show _ ≤ 7236847; omega⟩ rfl rfl hl.1 (Nat.le_of_ble_eq_true rfl) dL_law_85 (fun r_47 o_48 H1 L1 P hf => ?_)
          refine r_jn (fun k102 : OM2 → Option Int32 => ∀ (o_49 : OM2) H1 L1 ls, Hp2 G o_49 s H1 L1 → lv_has ls 10 [] → k102 o_49 = some 1 → W p l e room_1 s m args below meth c H1 L1 (cl + 1) (sl + 6) Q (F0 m 102 ls [])) hf ?_ (fun k102 j102 hf => ?_)
          · intro o_49 H1 L1 ls  P hl hf
            refine r_iconst C (v := 0) (by decide) dL_law_102 ?_
            exact absurd (Option.some.inj hf) (by decide)
          refine r_if_eq C dL_law_88 hf (fun hf => ?_) (fun hf => ?_)
          · refine law_w (c2 := cl + 1) (s2 := sl + 6) (by omega) (by omega) ?_
            exact j102 o_48 _ _ _ P (lv_sub hl [] rfl) hf
          · refine r_aload_n C hl 5 rfl rfl dL_law_91 ?_
            refine r_bipush C (v := 17) (by decide) dL_law_92 ?_
            refine t_cV1 C X P cf_L_48 (rm := rmX5_count) rfl [.int ((17 : Int32))] [] hf (fun _ _ h => ctX5_count l G hl9 o_48.1 ((17 : Int32)) h) ⟨Nat.le_of_ble_eq_true rfl, Nat.le_of_ble_eq_true rfl⟩ ⟨by show _ ≤ 621540; omega, by show _ ≤ 7236847; omega⟩ rfl rfl hl.1 (Nat.le_of_ble_eq_true rfl) dL_law_94 (fun r_50 o_51 H1 L1 P hf => ?_)
            refine r_iload C hl 2 rfl dL_law_97 ?_
            refine r_icmp_eq C dL_law_99 hf (fun hf => ?_) (fun hf => ?_)
            · refine law_w (c2 := cl + 1) (s2 := sl + 6) (by omega) (by omega) ?_
              exact j104 o_51 _ _ _ P (lv_sub hl [4, 5, 6, 7, 8, 3, 2, 1, 0] rfl) hf
            · refine law_w (c2 := cl + 1) (s2 := sl + 6) (by omega) (by omega) ?_
              exact j102 o_51 _ _ _ P (lv_sub hl [] rfl) hf
      refine r_icmp_ge C dL_law_33 hf (fun hf => ?_) (fun hf => ?_)
      · refine r_aload_n C hl 0 rfl rfl dL_law_48 ?_
        refine r_iload C hl 4 rfl dL_law_49 ?_
        refine t_cell C hX hbl hbA P cf_L_92 [] hf ⟨Nat.le_of_ble_eq_true rfl, Nat.le_of_ble_eq_true rfl⟩ ⟨by show _ ≤ 621540; omega, by show _ ≤ 7236847; omega⟩ hl.1 (Nat.le_of_ble_eq_true rfl) dL_law_51 (fun r_52 H1 L1 P hf => ?_)
        refine law_w (c2 := cl + 0) (s2 := sl + 0) (by omega) (by omega) ?_
        exact j54 r_52 _ _ _ P (lv_sub hl [0, 1, 2, 3, 4] rfl) hf
      · refine r_aload_n C hl 0 rfl rfl dL_law_36 ?_
        refine r_iload C hl 4 rfl dL_law_37 ?_
        refine t_cell C hX hbl hbA P cf_L_92 [] hf ⟨Nat.le_of_ble_eq_true rfl, Nat.le_of_ble_eq_true rfl⟩ ⟨by show _ ≤ 621540; omega, by show _ ≤ 7236847; omega⟩ hl.1 (Nat.le_of_ble_eq_true rfl) dL_law_39 (fun r_53 H1 L1 P hf => ?_)
        refine r_bipush C (v := -32) (by decide) dL_law_42 ?_
        refine r_iand C dL_law_44 ?_
        refine r_goto C dL_law_45 ?_
        refine law_w (c2 := cl + 0) (s2 := sl + 0) (by omega) (by omega) ?_
        exact j54 (r_53 &&& ((-32 : Int32))) _ _ _ P (lv_sub hl [0, 1, 2, 3, 4] rfl) hf
