theorem dL_low_0 : Dc cL_low 0 (.iload_n 0) 1 1 := ⟨by decide +kernel, rfl⟩
theorem dL_low_1 : Dc cL_low 1 (.ldc 7) 2 3 := ⟨by decide +kernel, rfl⟩
theorem dL_low_3 : Dc cL_low 3 (.iand) 1 4 := ⟨by decide +kernel, rfl⟩
theorem dL_low_4 : Dc cL_low 4 (.iload_n 1) 1 5 := ⟨by decide +kernel, rfl⟩
theorem dL_low_5 : Dc cL_low 5 (.irem) 1 6 := ⟨by decide +kernel, rfl⟩
theorem dL_low_6 : Dc cL_low 6 (.ireturn) 1 7 := ⟨by decide +kernel, rfl⟩
def F_L_low (o : OM) (v0 : Int32) (v1 : Int32) : Option Int32 := grd (decide (¬ v1 = 0)) (some ((v0 &&& ((2147483647 : Int32))) - (v0 &&& ((2147483647 : Int32))) / v1 * v1))
abbrev rmL_low : Room := { frames := 0, cells := 0, slots := 0, locals := 0 }
set_option maxHeartbeats 4000000 in
set_option maxRecDepth 100000 in
theorem wL_low {G : Gd} {p : Program} {l : Launch} {e : Env} {s : State} {m : MethodId} {args : Array Value} {below : List Frame} {meth : Method} {c : Code} {o : OM} {H : Heap} {L0 : List Loc} {ls : Array Slot} {r : Int32} {v0 : Int32} {v1 : Int32} (C : Cx G RL cL_low 2 (some .int) p s m args meth c)  (P : Hp G o s H L0) (hl : lv_has ls 2 [(0, .int v0), (1, .int v1)]) (hf : F_L_low o v0 v1 = some r) : W p l e rmL_low s m args below meth c H L0 0 0 (Qm G (some (.int r)) o rmL_low below args s) (F0 m 0 ls []) := by
  unfold F_L_low at hf
  refine r_iload_n C hl 0 rfl rfl dL_low_0 ?_
  refine r_ldc C wd_360 dL_low_1 ?_
  refine r_iand C dL_low_3 ?_
  refine r_iload_n C hl 1 rfl rfl dL_low_4 ?_
  refine r_irem C dL_low_5 hf (fun hf => ?_)
  exact q_iret C P (rm := rmL_low) ⟨rfl, rfl⟩ dL_low_6 hf
theorem ctL_low (l : Launch) (G : Gd) (o : OM) (v0 : Int32) (v1 : Int32)  {r : Int32} (hf : F_L_low o v0 v1 = some r) : Ct l yL_low cL_low 2 (some .int) rmL_low G [.int v0, .int v1] o (some (.int r)) o := ct_of (by decide +kernel) (Nat.le_of_ble_eq_true rfl) (fun p e s m below meth c ls C P hl => wL_low C  P hl hf)
theorem cfw_51 : CallFW RL 51 yL_makes cL_makes 6 [(0, 11, 14, 35), (0, 11, 18, 37)] 5 := ⟨wd_364, wd_365, wd_9, wd_366, by decide, by decide +kernel⟩
theorem cfw_55 : CallFW RL 55 yL_changes cL_changes 6 [(0, 90, 93, 33), (0, 90, 97, 35), (0, 90, 101, 37)] 5 := ⟨wd_392, wd_393, wd_9, wd_394, by decide, by decide +kernel⟩
theorem cf_L_43 : CallF true RL 43 yL_low cL_low 2 (some .int) 2 := ⟨wd_357, (by rw [if_pos rfl]; exact wd_358), wd_9, wd_359, by decide, by decide +kernel⟩
theorem cf_L_48 : CallF false RL 48 yX5_count cX5_count 2 (some .int) 1 := ⟨wd_315, (by rw [if_neg (by decide)]; exact ⟨wd_316, wd_317⟩), wd_10, wd_318, by decide, by decide +kernel⟩
theorem dL_act_0 : Dc cL_act 0 (.iload_n 1) 1 1 := ⟨by decide +kernel, rfl⟩
theorem dL_act_1 : Dc cL_act 1 (.bipush 32) 2 3 := ⟨by decide +kernel, rfl⟩
theorem dL_act_3 : Dc cL_act 3 (.invokestatic 43) 3 6 := ⟨by decide +kernel, rfl⟩
theorem dL_act_6 : Dc cL_act 6 (.istore_n 3) 1 7 := ⟨by decide +kernel, rfl⟩
theorem dL_act_7 : Dc cL_act 7 (.iload_n 1) 1 8 := ⟨by decide +kernel, rfl⟩
theorem dL_act_8 : Dc cL_act 8 (.iconst 5) 1 9 := ⟨by decide +kernel, rfl⟩
theorem dL_act_9 : Dc cL_act 9 (.ishr) 1 10 := ⟨by decide +kernel, rfl⟩
theorem dL_act_10 : Dc cL_act 10 (.istore 4) 2 12 := ⟨by decide +kernel, rfl⟩
theorem dL_act_12 : Dc cL_act 12 (.iload_n 1) 1 13 := ⟨by decide +kernel, rfl⟩
theorem dL_act_13 : Dc cL_act 13 (.bipush 22) 2 15 := ⟨by decide +kernel, rfl⟩
theorem dL_act_15 : Dc cL_act 15 (.ishr) 1 16 := ⟨by decide +kernel, rfl⟩
theorem dL_act_16 : Dc cL_act 16 (.bipush 7) 2 18 := ⟨by decide +kernel, rfl⟩
theorem dL_act_18 : Dc cL_act 18 (.invokestatic 43) 3 21 := ⟨by decide +kernel, rfl⟩
theorem dL_act_21 : Dj cL_act 21 (.ifCond .le 7) 3 24 (7) 28 := ⟨by decide +kernel, rfl, by decide⟩
theorem dL_act_24 : Dc cL_act 24 (.iconst 1) 1 25 := ⟨by decide +kernel, rfl⟩
theorem dL_act_25 : Dj cL_act 25 (.goto 4) 3 28 (4) 29 := ⟨by decide +kernel, rfl, by decide⟩
theorem dL_act_28 : Dc cL_act 28 (.iconst 0) 1 29 := ⟨by decide +kernel, rfl⟩
theorem dL_act_29 : Dc cL_act 29 (.istore 5) 2 31 := ⟨by decide +kernel, rfl⟩
theorem dL_act_31 : Dc cL_act 31 (.aload_n 0) 1 32 := ⟨by decide +kernel, rfl⟩
theorem dL_act_32 : Dc cL_act 32 (.iconst 1) 1 33 := ⟨by decide +kernel, rfl⟩
theorem dL_act_33 : Dc cL_act 33 (.invokevirtual 48) 3 36 := ⟨by decide +kernel, rfl⟩
theorem dL_act_36 : Dc cL_act 36 (.istore 6) 2 38 := ⟨by decide +kernel, rfl⟩
theorem dL_act_38 : Dc cL_act 38 (.iload 4) 2 40 := ⟨by decide +kernel, rfl⟩
theorem dL_act_40 : Dc cL_act 40 (.iload 5) 2 42 := ⟨by decide +kernel, rfl⟩
theorem dL_act_42 : Dj cL_act 42 (.ifCond .eq 13) 3 45 (13) 55 := ⟨by decide +kernel, rfl, by decide⟩
theorem dL_act_45 : Dc cL_act 45 (.iload 6) 2 47 := ⟨by decide +kernel, rfl⟩
theorem dL_act_47 : Dj cL_act 47 (.ifCond .le 8) 3 50 (8) 55 := ⟨by decide +kernel, rfl, by decide⟩
theorem dL_act_50 : Dc cL_act 50 (.iload 6) 2 52 := ⟨by decide +kernel, rfl⟩
theorem dL_act_52 : Dj cL_act 52 (.goto 7) 3 55 (7) 59 := ⟨by decide +kernel, rfl, by decide⟩
theorem dL_act_55 : Dc cL_act 55 (.iload 6) 2 57 := ⟨by decide +kernel, rfl⟩
theorem dL_act_57 : Dc cL_act 57 (.iconst 1) 1 58 := ⟨by decide +kernel, rfl⟩
theorem dL_act_58 : Dc cL_act 58 (.iadd) 1 59 := ⟨by decide +kernel, rfl⟩
theorem dL_act_59 : Dc cL_act 59 (.invokestatic 43) 3 62 := ⟨by decide +kernel, rfl⟩
theorem dL_act_62 : Dc cL_act 62 (.istore 7) 2 64 := ⟨by decide +kernel, rfl⟩
theorem dL_act_64 : Dc cL_act 64 (.iload_n 3) 1 65 := ⟨by decide +kernel, rfl⟩
theorem dL_act_65 : Dc cL_act 65 (.iconst 4) 1 66 := ⟨by decide +kernel, rfl⟩
theorem dL_act_66 : Dj cL_act 66 (.if_icmp .ge 83) 3 69 (83) 149 := ⟨by decide +kernel, rfl, by decide⟩
theorem dL_act_69 : Dc cL_act 69 (.aload_n 0) 1 70 := ⟨by decide +kernel, rfl⟩
theorem dL_act_70 : Dc cL_act 70 (.iload 4) 2 72 := ⟨by decide +kernel, rfl⟩
theorem dL_act_72 : Dc cL_act 72 (.iload 5) 2 74 := ⟨by decide +kernel, rfl⟩
theorem dL_act_74 : Dj cL_act 74 (.ifCond .eq 8) 3 77 (8) 82 := ⟨by decide +kernel, rfl, by decide⟩
theorem dL_act_77 : Dc cL_act 77 (.bipush 101) 2 79 := ⟨by decide +kernel, rfl⟩
theorem dL_act_79 : Dj cL_act 79 (.goto 5) 3 82 (5) 84 := ⟨by decide +kernel, rfl, by decide⟩
theorem dL_act_82 : Dc cL_act 82 (.bipush 110) 2 84 := ⟨by decide +kernel, rfl⟩
theorem dL_act_84 : Dc cL_act 84 (.invokestatic 43) 3 87 := ⟨by decide +kernel, rfl⟩
theorem dL_act_87 : Dc cL_act 87 (.bipush 50) 2 89 := ⟨by decide +kernel, rfl⟩
theorem dL_act_89 : Dc cL_act 89 (.isub) 1 90 := ⟨by decide +kernel, rfl⟩
theorem dL_act_90 : Dc cL_act 90 (.iload 4) 2 92 := ⟨by decide +kernel, rfl⟩
theorem dL_act_92 : Dc cL_act 92 (.iconst 3) 1 93 := ⟨by decide +kernel, rfl⟩
theorem dL_act_93 : Dc cL_act 93 (.ishr) 1 94 := ⟨by decide +kernel, rfl⟩
theorem dL_act_94 : Dc cL_act 94 (.iload 5) 2 96 := ⟨by decide +kernel, rfl⟩
theorem dL_act_96 : Dj cL_act 96 (.ifCond .eq 8) 3 99 (8) 104 := ⟨by decide +kernel, rfl, by decide⟩
theorem dL_act_99 : Dc cL_act 99 (.bipush 101) 2 101 := ⟨by decide +kernel, rfl⟩
theorem dL_act_101 : Dj cL_act 101 (.goto 5) 3 104 (5) 106 := ⟨by decide +kernel, rfl, by decide⟩
theorem dL_act_104 : Dc cL_act 104 (.bipush 110) 2 106 := ⟨by decide +kernel, rfl⟩
theorem dL_act_106 : Dc cL_act 106 (.invokestatic 43) 3 109 := ⟨by decide +kernel, rfl⟩
theorem dL_act_109 : Dc cL_act 109 (.bipush 50) 2 111 := ⟨by decide +kernel, rfl⟩
theorem dL_act_111 : Dc cL_act 111 (.isub) 1 112 := ⟨by decide +kernel, rfl⟩
theorem dL_act_112 : Dc cL_act 112 (.iload 4) 2 114 := ⟨by decide +kernel, rfl⟩
theorem dL_act_114 : Dc cL_act 114 (.bipush 6) 2 116 := ⟨by decide +kernel, rfl⟩
theorem dL_act_116 : Dc cL_act 116 (.ishr) 1 117 := ⟨by decide +kernel, rfl⟩
theorem dL_act_117 : Dc cL_act 117 (.iload 5) 2 119 := ⟨by decide +kernel, rfl⟩
theorem dL_act_119 : Dj cL_act 119 (.ifCond .eq 21) 3 122 (21) 140 := ⟨by decide +kernel, rfl, by decide⟩
theorem dL_act_122 : Dc cL_act 122 (.iload 4) 2 124 := ⟨by decide +kernel, rfl⟩
theorem dL_act_124 : Dc cL_act 124 (.bipush 9) 2 126 := ⟨by decide +kernel, rfl⟩
theorem dL_act_126 : Dc cL_act 126 (.ishr) 1 127 := ⟨by decide +kernel, rfl⟩
theorem dL_act_127 : Dc cL_act 127 (.iconst 1) 1 128 := ⟨by decide +kernel, rfl⟩
theorem dL_act_128 : Dc cL_act 128 (.iand) 1 129 := ⟨by decide +kernel, rfl⟩
theorem dL_act_129 : Dj cL_act 129 (.ifCond .ne 7) 3 132 (7) 136 := ⟨by decide +kernel, rfl, by decide⟩
theorem dL_act_132 : Dc cL_act 132 (.iconst 4) 1 133 := ⟨by decide +kernel, rfl⟩
theorem dL_act_133 : Dj cL_act 133 (.goto 8) 3 136 (8) 141 := ⟨by decide +kernel, rfl, by decide⟩
theorem dL_act_136 : Dc cL_act 136 (.iconst 1) 1 137 := ⟨by decide +kernel, rfl⟩
theorem dL_act_137 : Dj cL_act 137 (.goto 4) 3 140 (4) 141 := ⟨by decide +kernel, rfl, by decide⟩
theorem dL_act_140 : Dc cL_act 140 (.iconst 5) 1 141 := ⟨by decide +kernel, rfl⟩
theorem dL_act_141 : Dc cL_act 141 (.invokestatic 43) 3 144 := ⟨by decide +kernel, rfl⟩
theorem dL_act_144 : Dc cL_act 144 (.aload_n 2) 1 145 := ⟨by decide +kernel, rfl⟩
theorem dL_act_145 : Dc cL_act 145 (.invokestatic 51) 3 148 := ⟨by decide +kernel, rfl⟩
theorem dL_act_148 : Dc cL_act 148 (.ireturn) 1 149 := ⟨by decide +kernel, rfl⟩
theorem dL_act_149 : Dc cL_act 149 (.iload_n 3) 1 150 := ⟨by decide +kernel, rfl⟩
theorem dL_act_150 : Dc cL_act 150 (.bipush 16) 2 152 := ⟨by decide +kernel, rfl⟩
theorem dL_act_152 : Dj cL_act 152 (.if_icmp .ge 29) 3 155 (29) 181 := ⟨by decide +kernel, rfl, by decide⟩
theorem dL_act_155 : Dc cL_act 155 (.aload_n 0) 1 156 := ⟨by decide +kernel, rfl⟩
theorem dL_act_156 : Dc cL_act 156 (.iconst 4) 1 157 := ⟨by decide +kernel, rfl⟩
theorem dL_act_157 : Dc cL_act 157 (.iload 7) 2 159 := ⟨by decide +kernel, rfl⟩
theorem dL_act_159 : Dc cL_act 159 (.iload 4) 2 161 := ⟨by decide +kernel, rfl⟩
theorem dL_act_161 : Dc cL_act 161 (.iconst 3) 1 162 := ⟨by decide +kernel, rfl⟩
theorem dL_act_162 : Dc cL_act 162 (.ishr) 1 163 := ⟨by decide +kernel, rfl⟩
theorem dL_act_163 : Dc cL_act 163 (.iload 5) 2 165 := ⟨by decide +kernel, rfl⟩
theorem dL_act_165 : Dj cL_act 165 (.ifCond .eq 7) 3 168 (7) 172 := ⟨by decide +kernel, rfl, by decide⟩
theorem dL_act_168 : Dc cL_act 168 (.iconst 4) 1 169 := ⟨by decide +kernel, rfl⟩
theorem dL_act_169 : Dj cL_act 169 (.goto 4) 3 172 (4) 173 := ⟨by decide +kernel, rfl, by decide⟩
theorem dL_act_172 : Dc cL_act 172 (.iconst 5) 1 173 := ⟨by decide +kernel, rfl⟩
theorem dL_act_173 : Dc cL_act 173 (.invokestatic 43) 3 176 := ⟨by decide +kernel, rfl⟩
theorem dL_act_176 : Dc cL_act 176 (.aload_n 2) 1 177 := ⟨by decide +kernel, rfl⟩
theorem dL_act_177 : Dc cL_act 177 (.invokestatic 55) 3 180 := ⟨by decide +kernel, rfl⟩
theorem dL_act_180 : Dc cL_act 180 (.ireturn) 1 181 := ⟨by decide +kernel, rfl⟩
theorem dL_act_181 : Dc cL_act 181 (.iload_n 3) 1 182 := ⟨by decide +kernel, rfl⟩
theorem dL_act_182 : Dc cL_act 182 (.bipush 20) 2 184 := ⟨by decide +kernel, rfl⟩
theorem dL_act_184 : Dj cL_act 184 (.if_icmp .ge 14) 3 187 (14) 198 := ⟨by decide +kernel, rfl, by decide⟩
theorem dL_act_187 : Dc cL_act 187 (.aload_n 0) 1 188 := ⟨by decide +kernel, rfl⟩
theorem dL_act_188 : Dc cL_act 188 (.bipush 6) 2 190 := ⟨by decide +kernel, rfl⟩
theorem dL_act_190 : Dc cL_act 190 (.iload 7) 2 192 := ⟨by decide +kernel, rfl⟩
theorem dL_act_192 : Dc cL_act 192 (.iconst 0) 1 193 := ⟨by decide +kernel, rfl⟩
theorem dL_act_193 : Dc cL_act 193 (.aload_n 2) 1 194 := ⟨by decide +kernel, rfl⟩
theorem dL_act_194 : Dc cL_act 194 (.invokestatic 55) 3 197 := ⟨by decide +kernel, rfl⟩
theorem dL_act_197 : Dc cL_act 197 (.ireturn) 1 198 := ⟨by decide +kernel, rfl⟩
theorem dL_act_198 : Dc cL_act 198 (.iload_n 3) 1 199 := ⟨by decide +kernel, rfl⟩
theorem dL_act_199 : Dc cL_act 199 (.bipush 25) 2 201 := ⟨by decide +kernel, rfl⟩
theorem dL_act_201 : Dj cL_act 201 (.if_icmp .ge 79) 3 204 (79) 280 := ⟨by decide +kernel, rfl, by decide⟩
theorem dL_act_204 : Dc cL_act 204 (.aload_n 0) 1 205 := ⟨by decide +kernel, rfl⟩
theorem dL_act_205 : Dc cL_act 205 (.iconst 1) 1 206 := ⟨by decide +kernel, rfl⟩
theorem dL_act_206 : Dc cL_act 206 (.iload 4) 2 208 := ⟨by decide +kernel, rfl⟩
theorem dL_act_208 : Dc cL_act 208 (.iload 5) 2 210 := ⟨by decide +kernel, rfl⟩
theorem dL_act_210 : Dj cL_act 210 (.ifCond .eq 7) 3 213 (7) 217 := ⟨by decide +kernel, rfl, by decide⟩
theorem dL_act_213 : Dc cL_act 213 (.iconst 4) 1 214 := ⟨by decide +kernel, rfl⟩
theorem dL_act_214 : Dj cL_act 214 (.goto 4) 3 217 (4) 218 := ⟨by decide +kernel, rfl, by decide⟩
theorem dL_act_217 : Dc cL_act 217 (.iconst 5) 1 218 := ⟨by decide +kernel, rfl⟩
theorem dL_act_218 : Dc cL_act 218 (.invokestatic 43) 3 221 := ⟨by decide +kernel, rfl⟩
theorem dL_act_221 : Dc cL_act 221 (.iload 4) 2 223 := ⟨by decide +kernel, rfl⟩
theorem dL_act_223 : Dc cL_act 223 (.iconst 3) 1 224 := ⟨by decide +kernel, rfl⟩
theorem dL_act_224 : Dc cL_act 224 (.ishr) 1 225 := ⟨by decide +kernel, rfl⟩
theorem dL_act_225 : Dc cL_act 225 (.iconst 3) 1 226 := ⟨by decide +kernel, rfl⟩
theorem dL_act_226 : Dc cL_act 226 (.iand) 1 227 := ⟨by decide +kernel, rfl⟩
theorem dL_act_227 : Dj cL_act 227 (.ifCond .ne 7) 3 230 (7) 234 := ⟨by decide +kernel, rfl, by decide⟩
theorem dL_act_230 : Dc cL_act 230 (.iconst 0) 1 231 := ⟨by decide +kernel, rfl⟩
theorem dL_act_231 : Dj cL_act 231 (.goto 44) 3 234 (44) 275 := ⟨by decide +kernel, rfl, by decide⟩
theorem dL_act_234 : Dc cL_act 234 (.iload 4) 2 236 := ⟨by decide +kernel, rfl⟩
theorem dL_act_236 : Dc cL_act 236 (.iconst 3) 1 237 := ⟨by decide +kernel, rfl⟩
theorem dL_act_237 : Dc cL_act 237 (.ishr) 1 238 := ⟨by decide +kernel, rfl⟩
theorem dL_act_238 : Dc cL_act 238 (.iconst 3) 1 239 := ⟨by decide +kernel, rfl⟩
theorem dL_act_239 : Dc cL_act 239 (.iand) 1 240 := ⟨by decide +kernel, rfl⟩
theorem dL_act_240 : Dc cL_act 240 (.iconst 1) 1 241 := ⟨by decide +kernel, rfl⟩
theorem dL_act_241 : Dj cL_act 241 (.if_icmp .ne 9) 3 244 (9) 250 := ⟨by decide +kernel, rfl, by decide⟩
theorem dL_act_244 : Dc cL_act 244 (.sipush 1000) 3 247 := ⟨by decide +kernel, rfl⟩
theorem dL_act_247 : Dj cL_act 247 (.goto 28) 3 250 (28) 275 := ⟨by decide +kernel, rfl, by decide⟩
theorem dL_act_250 : Dc cL_act 250 (.iload 4) 2 252 := ⟨by decide +kernel, rfl⟩
theorem dL_act_252 : Dc cL_act 252 (.iconst 5) 1 253 := ⟨by decide +kernel, rfl⟩
theorem dL_act_253 : Dc cL_act 253 (.ishr) 1 254 := ⟨by decide +kernel, rfl⟩
theorem dL_act_254 : Dc cL_act 254 (.iload 5) 2 256 := ⟨by decide +kernel, rfl⟩
theorem dL_act_256 : Dj cL_act 256 (.ifCond .eq 9) 3 259 (9) 265 := ⟨by decide +kernel, rfl, by decide⟩
theorem dL_act_259 : Dc cL_act 259 (.sipush 1901) 3 262 := ⟨by decide +kernel, rfl⟩
theorem dL_act_262 : Dj cL_act 262 (.goto 6) 3 265 (6) 268 := ⟨by decide +kernel, rfl, by decide⟩
theorem dL_act_265 : Dc cL_act 265 (.sipush 2100) 3 268 := ⟨by decide +kernel, rfl⟩
theorem dL_act_268 : Dc cL_act 268 (.invokestatic 43) 3 271 := ⟨by decide +kernel, rfl⟩
theorem dL_act_271 : Dc cL_act 271 (.sipush 400) 3 274 := ⟨by decide +kernel, rfl⟩
theorem dL_act_274 : Dc cL_act 274 (.isub) 1 275 := ⟨by decide +kernel, rfl⟩
theorem dL_act_275 : Dc cL_act 275 (.aload_n 2) 1 276 := ⟨by decide +kernel, rfl⟩
theorem dL_act_276 : Dc cL_act 276 (.invokestatic 55) 3 279 := ⟨by decide +kernel, rfl⟩
theorem dL_act_279 : Dc cL_act 279 (.ireturn) 1 280 := ⟨by decide +kernel, rfl⟩
theorem dL_act_280 : Dc cL_act 280 (.iload_n 3) 1 281 := ⟨by decide +kernel, rfl⟩
theorem dL_act_281 : Dc cL_act 281 (.bipush 28) 2 283 := ⟨by decide +kernel, rfl⟩
theorem dL_act_283 : Dj cL_act 283 (.if_icmp .ge 27) 3 286 (27) 310 := ⟨by decide +kernel, rfl, by decide⟩
theorem dL_act_286 : Dc cL_act 286 (.aload_n 0) 1 287 := ⟨by decide +kernel, rfl⟩
theorem dL_act_287 : Dc cL_act 287 (.iconst 2) 1 288 := ⟨by decide +kernel, rfl⟩
theorem dL_act_288 : Dc cL_act 288 (.iload 4) 2 290 := ⟨by decide +kernel, rfl⟩
theorem dL_act_290 : Dc cL_act 290 (.iload 5) 2 292 := ⟨by decide +kernel, rfl⟩
theorem dL_act_292 : Dj cL_act 292 (.ifCond .eq 7) 3 295 (7) 299 := ⟨by decide +kernel, rfl, by decide⟩
theorem dL_act_295 : Dc cL_act 295 (.iconst 4) 1 296 := ⟨by decide +kernel, rfl⟩
theorem dL_act_296 : Dj cL_act 296 (.goto 5) 3 299 (5) 301 := ⟨by decide +kernel, rfl, by decide⟩
theorem dL_act_299 : Dc cL_act 299 (.bipush 25) 2 301 := ⟨by decide +kernel, rfl⟩
theorem dL_act_301 : Dc cL_act 301 (.invokestatic 43) 3 304 := ⟨by decide +kernel, rfl⟩
theorem dL_act_304 : Dc cL_act 304 (.iconst 0) 1 305 := ⟨by decide +kernel, rfl⟩
theorem dL_act_305 : Dc cL_act 305 (.aload_n 2) 1 306 := ⟨by decide +kernel, rfl⟩
theorem dL_act_306 : Dc cL_act 306 (.invokestatic 55) 3 309 := ⟨by decide +kernel, rfl⟩
theorem dL_act_309 : Dc cL_act 309 (.ireturn) 1 310 := ⟨by decide +kernel, rfl⟩
theorem dL_act_310 : Dc cL_act 310 (.iload_n 3) 1 311 := ⟨by decide +kernel, rfl⟩
theorem dL_act_311 : Dc cL_act 311 (.bipush 28) 2 313 := ⟨by decide +kernel, rfl⟩
theorem dL_act_313 : Dj cL_act 313 (.if_icmp .ne 48) 3 316 (48) 361 := ⟨by decide +kernel, rfl, by decide⟩
theorem dL_act_316 : Dc cL_act 316 (.aload_n 0) 1 317 := ⟨by decide +kernel, rfl⟩
theorem dL_act_317 : Dc cL_act 317 (.iconst 3) 1 318 := ⟨by decide +kernel, rfl⟩
theorem dL_act_318 : Dc cL_act 318 (.iload 4) 2 320 := ⟨by decide +kernel, rfl⟩
theorem dL_act_320 : Dc cL_act 320 (.iload 5) 2 322 := ⟨by decide +kernel, rfl⟩
theorem dL_act_322 : Dj cL_act 322 (.ifCond .eq 8) 3 325 (8) 330 := ⟨by decide +kernel, rfl, by decide⟩
theorem dL_act_325 : Dc cL_act 325 (.bipush 7) 2 327 := ⟨by decide +kernel, rfl⟩
theorem dL_act_327 : Dj cL_act 327 (.goto 5) 3 330 (5) 332 := ⟨by decide +kernel, rfl, by decide⟩
theorem dL_act_330 : Dc cL_act 330 (.bipush 8) 2 332 := ⟨by decide +kernel, rfl⟩
theorem dL_act_332 : Dc cL_act 332 (.invokestatic 43) 3 335 := ⟨by decide +kernel, rfl⟩
theorem dL_act_335 : Dc cL_act 335 (.iload 4) 2 337 := ⟨by decide +kernel, rfl⟩
theorem dL_act_337 : Dc cL_act 337 (.iconst 3) 1 338 := ⟨by decide +kernel, rfl⟩
theorem dL_act_338 : Dc cL_act 338 (.ishr) 1 339 := ⟨by decide +kernel, rfl⟩
theorem dL_act_339 : Dc cL_act 339 (.iload 5) 2 341 := ⟨by decide +kernel, rfl⟩
theorem dL_act_341 : Dj cL_act 341 (.ifCond .eq 8) 3 344 (8) 349 := ⟨by decide +kernel, rfl, by decide⟩
theorem dL_act_344 : Dc cL_act 344 (.bipush 21) 2 346 := ⟨by decide +kernel, rfl⟩
theorem dL_act_346 : Dj cL_act 346 (.goto 5) 3 349 (5) 351 := ⟨by decide +kernel, rfl, by decide⟩
theorem dL_act_349 : Dc cL_act 349 (.bipush 120) 2 351 := ⟨by decide +kernel, rfl⟩
theorem dL_act_351 : Dc cL_act 351 (.invokestatic 43) 3 354 := ⟨by decide +kernel, rfl⟩
theorem dL_act_354 : Dc cL_act 354 (.aload_n 2) 1 355 := ⟨by decide +kernel, rfl⟩
theorem dL_act_355 : Dc cL_act 355 (.invokestatic 55) 3 358 := ⟨by decide +kernel, rfl⟩
theorem dL_act_358 : Dj cL_act 358 (.goto 77) 3 361 (77) 435 := ⟨by decide +kernel, rfl, by decide⟩
theorem dL_act_361 : Dc cL_act 361 (.iload_n 3) 1 362 := ⟨by decide +kernel, rfl⟩
theorem dL_act_362 : Dc cL_act 362 (.bipush 29) 2 364 := ⟨by decide +kernel, rfl⟩
theorem dL_act_364 : Dj cL_act 364 (.if_icmp .ne 24) 3 367 (24) 388 := ⟨by decide +kernel, rfl, by decide⟩
theorem dL_act_367 : Dc cL_act 367 (.iload 4) 2 369 := ⟨by decide +kernel, rfl⟩
theorem dL_act_369 : Dc cL_act 369 (.iconst 4) 1 370 := ⟨by decide +kernel, rfl⟩
theorem dL_act_370 : Dc cL_act 370 (.ishr) 1 371 := ⟨by decide +kernel, rfl⟩
theorem dL_act_371 : Dc cL_act 371 (.iconst 1) 1 372 := ⟨by decide +kernel, rfl⟩
theorem dL_act_372 : Dc cL_act 372 (.iand) 1 373 := ⟨by decide +kernel, rfl⟩
theorem dL_act_373 : Dj cL_act 373 (.ifCond .ne 15) 3 376 (15) 388 := ⟨by decide +kernel, rfl, by decide⟩
theorem dL_act_376 : Dc cL_act 376 (.aload_n 0) 1 377 := ⟨by decide +kernel, rfl⟩
theorem dL_act_377 : Dc cL_act 377 (.iconst 0) 1 378 := ⟨by decide +kernel, rfl⟩
theorem dL_act_378 : Dc cL_act 378 (.iload 7) 2 380 := ⟨by decide +kernel, rfl⟩
theorem dL_act_380 : Dc cL_act 380 (.iconst 0) 1 381 := ⟨by decide +kernel, rfl⟩
theorem dL_act_381 : Dc cL_act 381 (.aload_n 2) 1 382 := ⟨by decide +kernel, rfl⟩
theorem dL_act_382 : Dc cL_act 382 (.invokestatic 55) 3 385 := ⟨by decide +kernel, rfl⟩
theorem dL_act_385 : Dj cL_act 385 (.goto 50) 3 388 (50) 435 := ⟨by decide +kernel, rfl, by decide⟩
theorem dL_act_388 : Dc cL_act 388 (.aload_n 0) 1 389 := ⟨by decide +kernel, rfl⟩
theorem dL_act_389 : Dc cL_act 389 (.iconst 5) 1 390 := ⟨by decide +kernel, rfl⟩
theorem dL_act_390 : Dc cL_act 390 (.iload 7) 2 392 := ⟨by decide +kernel, rfl⟩
theorem dL_act_392 : Dc cL_act 392 (.iload 4) 2 394 := ⟨by decide +kernel, rfl⟩
theorem dL_act_394 : Dc cL_act 394 (.iconst 5) 1 395 := ⟨by decide +kernel, rfl⟩
theorem dL_act_395 : Dc cL_act 395 (.ishr) 1 396 := ⟨by decide +kernel, rfl⟩
theorem dL_act_396 : Dc cL_act 396 (.iconst 1) 1 397 := ⟨by decide +kernel, rfl⟩
theorem dL_act_397 : Dc cL_act 397 (.iand) 1 398 := ⟨by decide +kernel, rfl⟩
theorem dL_act_398 : Dj cL_act 398 (.ifCond .ne 7) 3 401 (7) 405 := ⟨by decide +kernel, rfl, by decide⟩
theorem dL_act_401 : Dc cL_act 401 (.iconst 0) 1 402 := ⟨by decide +kernel, rfl⟩
theorem dL_act_402 : Dj cL_act 402 (.goto 29) 3 405 (29) 431 := ⟨by decide +kernel, rfl, by decide⟩
theorem dL_act_405 : Dc cL_act 405 (.iload 4) 2 407 := ⟨by decide +kernel, rfl⟩
theorem dL_act_407 : Dc cL_act 407 (.bipush 6) 2 409 := ⟨by decide +kernel, rfl⟩
theorem dL_act_409 : Dc cL_act 409 (.ishr) 1 410 := ⟨by decide +kernel, rfl⟩
theorem dL_act_410 : Dc cL_act 410 (.iload 5) 2 412 := ⟨by decide +kernel, rfl⟩
theorem dL_act_412 : Dj cL_act 412 (.ifCond .eq 9) 3 415 (9) 421 := ⟨by decide +kernel, rfl, by decide⟩
theorem dL_act_415 : Dc cL_act 415 (.sipush 1901) 3 418 := ⟨by decide +kernel, rfl⟩
theorem dL_act_418 : Dj cL_act 418 (.goto 6) 3 421 (6) 424 := ⟨by decide +kernel, rfl, by decide⟩
theorem dL_act_421 : Dc cL_act 421 (.sipush 2100) 3 424 := ⟨by decide +kernel, rfl⟩
theorem dL_act_424 : Dc cL_act 424 (.invokestatic 43) 3 427 := ⟨by decide +kernel, rfl⟩
theorem dL_act_427 : Dc cL_act 427 (.sipush 400) 3 430 := ⟨by decide +kernel, rfl⟩
theorem dL_act_430 : Dc cL_act 430 (.isub) 1 431 := ⟨by decide +kernel, rfl⟩
theorem dL_act_431 : Dc cL_act 431 (.aload_n 2) 1 432 := ⟨by decide +kernel, rfl⟩
theorem dL_act_432 : Dc cL_act 432 (.invokestatic 55) 3 435 := ⟨by decide +kernel, rfl⟩
theorem dL_act_435 : Dc cL_act 435 (.ireturn) 1 436 := ⟨by decide +kernel, rfl⟩
def F_L_act (o : OM) (v1 : Int32) : Option (Int32 × OM) := bq (F_L_low o v1 ((32 : Int32))) (fun r_1 => bd (v1 >>> (((5 : Int32)) &&& 31)) (fun v4_2 : Int32 => bq (F_L_low o (v1 >>> (((22 : Int32)) &&& 31)) ((7 : Int32))) (fun r_3 => bd (fun (s_4 : Int32) => b0 (F_X5_count o ((1 : Int32))) (fun r_5 o_6 => bd (fun (s_7 : Int32) => bq (F_L_low o_6 v4_2 s_7) (fun r_8 => if ((4 : Int32)) ≤ r_1 then (if ((16 : Int32)) ≤ r_1 then (if ((20 : Int32)) ≤ r_1 then (if ((25 : Int32)) ≤ r_1 then (if ((28 : Int32)) ≤ r_1 then (bd (fun (o_10 : OM) (s_9 : Int32) => some (s_9, o_10)) (fun k435 => if r_1 = ((28 : Int32)) then (bd (fun (s_18 : Int32) => bq (F_L_low o_6 v4_2 s_18) (fun r_19 => bd (fun (s_20 : Int32) => bq (F_L_low o_6 (v4_2 >>> (((3 : Int32)) &&& 31)) s_20) (fun r_21 => bn (F_L_changes o_6 ((3 : Int32)) r_19 r_21) (fun r_22 o_23 => k435 o_23 r_22))) (fun k351 => if s_4 = 0 then (k351 ((120 : Int32))) else (k351 ((21 : Int32)))))) (fun k332 => if s_4 = 0 then (k332 ((8 : Int32))) else (k332 ((7 : Int32))))) else (bd (fun (_ : Unit) => bd (fun (s_11 : Int32) => bn (F_L_changes o_6 ((5 : Int32)) r_8 s_11) (fun r_12 o_13 => k435 o_13 r_12)) (fun k431 => if ((v4_2 >>> (((5 : Int32)) &&& 31)) &&& ((1 : Int32))) = 0 then (k431 ((0 : Int32))) else (bd (fun (s_14 : Int32) => bq (F_L_low o_6 (v4_2 >>> (((6 : Int32)) &&& 31)) s_14) (fun r_15 => k431 (r_15 - ((400 : Int32))))) (fun k424 => if s_4 = 0 then (k424 ((2100 : Int32))) else (k424 ((1901 : Int32))))))) (fun k388 => if r_1 = ((29 : Int32)) then (if ((v4_2 >>> (((4 : Int32)) &&& 31)) &&& ((1 : Int32))) = 0 then (bn (F_L_changes o_6 ((0 : Int32)) r_8 ((0 : Int32))) (fun r_16 o_17 => k435 o_17 r_16)) else (k388 ())) else (k388 ()))))) else (bd (fun (s_24 : Int32) => bq (F_L_low o_6 v4_2 s_24) (fun r_25 => bn (F_L_changes o_6 ((2 : Int32)) r_25 ((0 : Int32))) (fun r_26 o_27 => some (r_26, o_27)))) (fun k301 => if s_4 = 0 then (k301 ((25 : Int32))) else (k301 ((4 : Int32)))))) else (bd (fun (s_28 : Int32) => bq (F_L_low o_6 v4_2 s_28) (fun r_29 => bd (fun (s_30 : Int32) => bn (F_L_changes o_6 ((1 : Int32)) r_29 s_30) (fun r_31 o_32 => some (r_31, o_32))) (fun k275 => if ((v4_2 >>> (((3 : Int32)) &&& 31)) &&& ((3 : Int32))) = 0 then (k275 ((0 : Int32))) else (if ((v4_2 >>> (((3 : Int32)) &&& 31)) &&& ((3 : Int32))) = ((1 : Int32)) then (k275 ((1000 : Int32))) else (bd (fun (s_33 : Int32) => bq (F_L_low o_6 (v4_2 >>> (((5 : Int32)) &&& 31)) s_33) (fun r_34 => k275 (r_34 - ((400 : Int32))))) (fun k268 => if s_4 = 0 then (k268 ((2100 : Int32))) else (k268 ((1901 : Int32))))))))) (fun k218 => if s_4 = 0 then (k218 ((5 : Int32))) else (k218 ((4 : Int32)))))) else (bn (F_L_changes o_6 ((6 : Int32)) r_8 ((0 : Int32))) (fun r_35 o_36 => some (r_35, o_36)))) else (bd (fun (s_37 : Int32) => bq (F_L_low o_6 (v4_2 >>> (((3 : Int32)) &&& 31)) s_37) (fun r_38 => bn (F_L_changes o_6 ((4 : Int32)) r_8 r_38) (fun r_39 o_40 => some (r_39, o_40)))) (fun k173 => if s_4 = 0 then (k173 ((5 : Int32))) else (k173 ((4 : Int32)))))) else (bd (fun (s_41 : Int32) => bq (F_L_low o_6 v4_2 s_41) (fun r_42 => bd (fun (s_43 : Int32) => bq (F_L_low o_6 (v4_2 >>> (((3 : Int32)) &&& 31)) s_43) (fun r_44 => bd (fun (s_45 : Int32) => bq (F_L_low o_6 (v4_2 >>> (((6 : Int32)) &&& 31)) s_45) (fun r_46 => bn (F_L_makes o_6 (r_42 - ((50 : Int32))) (r_44 - ((50 : Int32))) r_46) (fun r_47 o_48 => some (r_47, o_48)))) (fun k141 => if s_4 = 0 then (k141 ((5 : Int32))) else (if ((v4_2 >>> (((9 : Int32)) &&& 31)) &&& ((1 : Int32))) = 0 then (k141 ((4 : Int32))) else (k141 ((1 : Int32))))))) (fun k106 => if s_4 = 0 then (k106 ((110 : Int32))) else (k106 ((101 : Int32)))))) (fun k84 => if s_4 = 0 then (k84 ((110 : Int32))) else (k84 ((101 : Int32))))))) (fun k59 => bd (fun (_ : Unit) => k59 (r_5 + ((1 : Int32)))) (fun k55 => if s_4 = 0 then (k55 ()) else (if r_5 ≤ 0 then (k55 ()) else (k59 r_5)))))) (fun k29 => if r_3 ≤ 0 then (k29 ((0 : Int32))) else (k29 ((1 : Int32)))))))
abbrev rmL_act : Room := { frames := 9, cells := 1, slots := 6, locals := 174 }
set_option maxHeartbeats 4000000 in
set_option maxRecDepth 100000 in
theorem wL_act {G : Gd} {p : Program} {l : Launch} {e : Env} {s : State} {m : MethodId} {args : Array Value} {below : List Frame} {meth : Method} {c : Code} {o : OM} {H : Heap} {L0 : List Loc} {ls : Array Slot} {r : Int32} {o9 : OM} {v1 : Int32} (C : Cx G RL cL_act 8 (some .int) p s m args meth c) (X : XW G s) (hl9 : l.stackTraces = false)  (P : Hp G o s H L0) (hl : lv_has ls 8 [(0, .ref (rA G 0 0)), (1, .int v1), (2, .ref (rA G 24 0))]) (hf : F_L_act o v1 = some (r, o9)) : W p l e rmL_act s m args below meth c H L0 0 0 (Qm G (some (.int r)) o9 rmL_act below args s) (F0 m 0 ls []) := by
  unfold F_L_act at hf
  refine r_iload_n C hl 1 rfl rfl dL_act_0 ?_
  refine r_bipush C (v := 32) (by decide) dL_act_1 ?_
  refine r_qSi C P cf_L_43 (rm := rmL_low) [.int v1, .int ((32 : Int32))] [] hf (fun _ h => ctL_low l G o v1 ((32 : Int32)) h) ⟨rfl, rfl⟩ ⟨Nat.le_of_ble_eq_true rfl, Nat.le_of_ble_eq_true rfl⟩ ⟨Nat.le_of_ble_eq_true rfl, Nat.le_of_ble_eq_true rfl⟩ rfl rfl hl.1 (Nat.le_of_ble_eq_true rfl) dL_act_3 (fun r_1 H1 L1 P hf => ?_)
  refine r_istore_n C [(3, .int r_1), (0, .ref (rA G 0 0)), (1, .int v1), (2, .ref (rA G 24 0))] hl (by decide) rfl rfl dL_act_6 (fun ls hl => ?_)
  refine r_iload_n C hl 2 rfl rfl dL_act_7 ?_
  refine r_iconst C (v := 5) (by decide) dL_act_8 ?_
  refine r_ishr C dL_act_9 ?_
  refine r_bdi hf (fun v4_2 hf => ?_)
  refine r_istore C [(4, .int v4_2), (3, .int r_1), (0, .ref (rA G 0 0)), (1, .int v1), (2, .ref (rA G 24 0))] hl (by decide) rfl dL_act_10 (fun ls hl => ?_)
  refine r_iload_n C hl 3 rfl rfl dL_act_12 ?_
  refine r_bipush C (v := 22) (by decide) dL_act_13 ?_
  refine r_ishr C dL_act_15 ?_
  refine r_bipush C (v := 7) (by decide) dL_act_16 ?_
  refine r_qSi C P cf_L_43 (rm := rmL_low) [.int (v1 >>> (((22 : Int32)) &&& 31)), .int ((7 : Int32))] [] hf (fun _ h => ctL_low l G o (v1 >>> (((22 : Int32)) &&& 31)) ((7 : Int32)) h) ⟨rfl, rfl⟩ ⟨Nat.le_of_ble_eq_true rfl, Nat.le_of_ble_eq_true rfl⟩ ⟨Nat.le_of_ble_eq_true rfl, Nat.le_of_ble_eq_true rfl⟩ rfl rfl hl.1 (Nat.le_of_ble_eq_true rfl) dL_act_18 (fun r_3 H1 L1 P hf => ?_)
  refine r_jn (fun k29 : Int32 → Option (Int32 × OM) => ∀ (s_4 : Int32) H1 L1 ls, Hp G o s H1 L1 → lv_has ls 8 [(0, .ref (rA G 0 0)), (2, .ref (rA G 24 0)), (3, .int r_1), (4, .int v4_2)] → k29 s_4 = some (r, o9) → W p l e rmL_act s m args below meth c H1 L1 0 0 (Qm G (some (.int r)) o9 rmL_act below args s) (F0 m 29 ls [.int s_4])) hf ?_ (fun k29 j29 hf => ?_)
  · intro s_4 H1 L1 ls  P hl hf
    refine r_istore C [(5, .int s_4), (0, .ref (rA G 0 0)), (2, .ref (rA G 24 0)), (3, .int r_1), (4, .int v4_2)] hl (by decide) rfl dL_act_29 (fun ls hl => ?_)
    refine r_aload_n C hl 1 rfl rfl dL_act_31 ?_
    refine r_iconst C (v := 1) (by decide) dL_act_32 ?_
    refine m_cVi C X P cf_L_48 (rm := rmX5_count) rfl [.int ((1 : Int32))] [] hf (fun _ _ h => ctX5_count l G hl9 o ((1 : Int32)) h) ⟨Nat.le_of_ble_eq_true rfl, Nat.le_of_ble_eq_true rfl⟩ ⟨Nat.le_of_ble_eq_true rfl, Nat.le_of_ble_eq_true rfl⟩ rfl rfl hl.1 (Nat.le_of_ble_eq_true rfl) dL_act_33 (fun r_5 o_6 H1 L1 P hf => ?_)
    refine r_istore C [(6, .int r_5), (5, .int s_4), (0, .ref (rA G 0 0)), (2, .ref (rA G 24 0)), (3, .int r_1), (4, .int v4_2)] hl (by decide) rfl dL_act_36 (fun ls hl => ?_)
    refine r_iload C hl 5 rfl dL_act_38 ?_
    refine r_iload C hl 1 rfl dL_act_40 ?_
    refine r_jn (fun k59 : Int32 → Option (Int32 × OM) => ∀ (s_7 : Int32) H1 L1 ls, Hp G o_6 s H1 L1 → lv_has ls 8 [(0, .ref (rA G 0 0)), (2, .ref (rA G 24 0)), (3, .int r_1), (4, .int v4_2), (5, .int s_4)] → k59 s_7 = some (r, o9) → W p l e rmL_act s m args below meth c H1 L1 0 0 (Qm G (some (.int r)) o9 rmL_act below args s) (F0 m 59 ls [.int s_7, .int v4_2])) hf ?_ (fun k59 j59 hf => ?_)
    · intro s_7 H1 L1 ls  P hl hf
      refine r_qSi C P cf_L_43 (rm := rmL_low) [.int v4_2, .int s_7] [] hf (fun _ h => ctL_low l G o_6 v4_2 s_7 h) ⟨rfl, rfl⟩ ⟨Nat.le_of_ble_eq_true rfl, Nat.le_of_ble_eq_true rfl⟩ ⟨Nat.le_of_ble_eq_true rfl, Nat.le_of_ble_eq_true rfl⟩ rfl rfl hl.1 (Nat.le_of_ble_eq_true rfl) dL_act_59 (fun r_8 H1 L1 P hf => ?_)
      refine r_istore C [(7, .int r_8), (0, .ref (rA G 0 0)), (2, .ref (rA G 24 0)), (3, .int r_1), (4, .int v4_2), (5, .int s_4)] hl (by decide) rfl dL_act_62 (fun ls hl => ?_)
      refine r_iload_n C hl 3 rfl rfl dL_act_64 ?_
      refine r_iconst C (v := 4) (by decide) dL_act_65 ?_
      refine r_icmp_ge C dL_act_66 hf (fun hf => ?_) (fun hf => ?_)
      · refine r_iload_n C hl 3 rfl rfl dL_act_149 ?_
        refine r_bipush C (v := 16) (by decide) dL_act_150 ?_
        refine r_icmp_ge C dL_act_152 hf (fun hf => ?_) (fun hf => ?_)
        · refine r_iload_n C hl 3 rfl rfl dL_act_181 ?_
          refine r_bipush C (v := 20) (by decide) dL_act_182 ?_
          refine r_icmp_ge C dL_act_184 hf (fun hf => ?_) (fun hf => ?_)
          · refine r_iload_n C hl 3 rfl rfl dL_act_198 ?_
            refine r_bipush C (v := 25) (by decide) dL_act_199 ?_
            refine r_icmp_ge C dL_act_201 hf (fun hf => ?_) (fun hf => ?_)
            · refine r_iload_n C hl 3 rfl rfl dL_act_280 ?_
              refine r_bipush C (v := 28) (by decide) dL_act_281 ?_
              refine r_icmp_ge C dL_act_283 hf (fun hf => ?_) (fun hf => ?_)
              · refine r_iload_n C hl 3 rfl rfl dL_act_310 ?_
                refine r_bipush C (v := 28) (by decide) dL_act_311 ?_
                refine r_jn (fun k435 : OM → Int32 → Option (Int32 × OM) => ∀ (o_10 : OM) (s_9 : Int32) H1 L1 ls, Hp G o_10 s H1 L1 → lv_has ls 8 [] → k435 o_10 s_9 = some (r, o9) → W p l e rmL_act s m args below meth c H1 L1 1 6 (Qm G (some (.int r)) o9 rmL_act below args s) (F0 m 435 ls [.int s_9])) hf ?_ (fun k435 j435 hf => ?_)
                · intro o_10 s_9 H1 L1 ls  P hl hf
                  exact r_iret C P (rm := rmL_act) ⟨rfl, rfl⟩ dL_act_435 hf
                refine r_icmp_ne C dL_act_313 hf (fun hf => ?_) (fun hf => ?_)
                · refine r_iload_n C hl 3 rfl rfl dL_act_361 ?_
                  refine r_bipush C (v := 29) (by decide) dL_act_362 ?_
                  refine r_jn (fun k388 : Unit → Option (Int32 × OM) => ∀ H1 L1 ls, Hp G o_6 s H1 L1 → lv_has ls 8 [(0, .ref (rA G 0 0)), (2, .ref (rA G 24 0)), (4, .int v4_2), (5, .int s_4), (7, .int r_8)] → k388 () = some (r, o9) → W p l e rmL_act s m args below meth c H1 L1 0 0 (Qm G (some (.int r)) o9 rmL_act below args s) (F0 m 388 ls [])) hf ?_ (fun k388 j388 hf => ?_)
                  · intro  H1 L1 ls  P hl hf
                    refine r_aload_n C hl 0 rfl rfl dL_act_388 ?_
                    refine r_iconst C (v := 5) (by decide) dL_act_389 ?_
                    refine r_iload C hl 4 rfl dL_act_390 ?_
                    refine r_iload C hl 2 rfl dL_act_392 ?_
                    refine r_iconst C (v := 5) (by decide) dL_act_394 ?_
                    refine r_ishr C dL_act_395 ?_
                    refine r_iconst C (v := 1) (by decide) dL_act_396 ?_
                    refine r_iand C dL_act_397 ?_
                    refine r_jn (fun k431 : Int32 → Option (Int32 × OM) => ∀ (s_11 : Int32) H1 L1 ls, Hp G o_6 s H1 L1 → lv_has ls 8 [(2, .ref (rA G 24 0))] → k431 s_11 = some (r, o9) → W p l e rmL_act s m args below meth c H1 L1 0 0 (Qm G (some (.int r)) o9 rmL_act below args s) (F0 m 431 ls [.int s_11, .int r_8, .int ((5 : Int32)), .ref (rA G 0 0)])) hf ?_ (fun k431 j431 hf => ?_)
                    · intro s_11 H1 L1 ls  P hl hf
                      refine r_aload_n C hl 0 rfl rfl dL_act_431 ?_
                      refine m_cX C X P cfw_55 (rm := rmL_changes) [.ref (rA G 0 0), .int ((5 : Int32)), .int r_8, .int s_11, .ref (rA G 24 0)] [] hf (fun _ _ h => ctL_changes l G hl9 o_6 ((5 : Int32)) r_8 s_11 h) ⟨Nat.le_of_ble_eq_true rfl, Nat.le_of_ble_eq_true rfl⟩ ⟨Nat.le_of_ble_eq_true rfl, Nat.le_of_ble_eq_true rfl⟩ rfl rfl hl.1 (Nat.le_of_ble_eq_true rfl) dL_act_432 (fun r_12 o_13 H1 L1 P hf => ?_)
                      exact j435 o_13 r_12 _ _ _ P (lv_sub hl [] rfl) hf
                    refine r_if_ne C dL_act_398 hf (fun hf => ?_) (fun hf => ?_)
                    · refine r_iload C hl 2 rfl dL_act_405 ?_
                      refine r_bipush C (v := 6) (by decide) dL_act_407 ?_
                      refine r_ishr C dL_act_409 ?_
                      refine r_iload C hl 3 rfl dL_act_410 ?_
                      refine r_jn (fun k424 : Int32 → Option (Int32 × OM) => ∀ (s_14 : Int32) H1 L1 ls, Hp G o_6 s H1 L1 → lv_has ls 8 [(2, .ref (rA G 24 0))] → k424 s_14 = some (r, o9) → W p l e rmL_act s m args below meth c H1 L1 0 0 (Qm G (some (.int r)) o9 rmL_act below args s) (F0 m 424 ls [.int s_14, .int (v4_2 >>> (((6 : Int32)) &&& 31)), .int r_8, .int ((5 : Int32)), .ref (rA G 0 0)])) hf ?_ (fun k424 j424 hf => ?_)
                      · intro s_14 H1 L1 ls  P hl hf
                        refine r_qSi C P cf_L_43 (rm := rmL_low) [.int (v4_2 >>> (((6 : Int32)) &&& 31)), .int s_14] [.int r_8, .int ((5 : Int32)), .ref (rA G 0 0)] hf (fun _ h => ctL_low l G o_6 (v4_2 >>> (((6 : Int32)) &&& 31)) s_14 h) ⟨rfl, rfl⟩ ⟨Nat.le_of_ble_eq_true rfl, Nat.le_of_ble_eq_true rfl⟩ ⟨Nat.le_of_ble_eq_true rfl, Nat.le_of_ble_eq_true rfl⟩ rfl rfl hl.1 (Nat.le_of_ble_eq_true rfl) dL_act_424 (fun r_15 H1 L1 P hf => ?_)
                        refine r_sipush C (v := 400) (by decide) dL_act_427 ?_
                        refine r_isub C dL_act_430 ?_
                        exact j431 (r_15 - ((400 : Int32))) _ _ _ P (lv_sub hl [0] rfl) hf
                      refine r_if_eq C dL_act_412 hf (fun hf => ?_) (fun hf => ?_)
                      · refine r_sipush C (v := 2100) (by decide) dL_act_421 ?_
                        exact j424 ((2100 : Int32)) _ _ _ P (lv_sub hl [1] rfl) hf
                      · refine r_sipush C (v := 1901) (by decide) dL_act_415 ?_
                        refine r_goto C dL_act_418 ?_
                        exact j424 ((1901 : Int32)) _ _ _ P (lv_sub hl [1] rfl) hf
                    · refine r_iconst C (v := 0) (by decide) dL_act_401 ?_
                      refine r_goto C dL_act_402 ?_
                      exact j431 ((0 : Int32)) _ _ _ P (lv_sub hl [1] rfl) hf
                  refine r_icmp_ne C dL_act_364 hf (fun hf => ?_) (fun hf => ?_)
                  · exact j388  _ _ _ P (lv_sub hl [1, 2, 4, 5, 0] rfl) hf
                  · refine r_iload C hl 4 rfl dL_act_367 ?_
                    refine r_iconst C (v := 4) (by decide) dL_act_369 ?_
                    refine r_ishr C dL_act_370 ?_
                    refine r_iconst C (v := 1) (by decide) dL_act_371 ?_
                    refine r_iand C dL_act_372 ?_
                    refine r_if_ne C dL_act_373 hf (fun hf => ?_) (fun hf => ?_)
                    · exact j388  _ _ _ P (lv_sub hl [1, 2, 4, 5, 0] rfl) hf
                    · refine r_aload_n C hl 1 rfl rfl dL_act_376 ?_
                      refine r_iconst C (v := 0) (by decide) dL_act_377 ?_
                      refine r_iload C hl 0 rfl dL_act_378 ?_
                      refine r_iconst C (v := 0) (by decide) dL_act_380 ?_
                      refine r_aload_n C hl 2 rfl rfl dL_act_381 ?_
                      refine m_cX C X P cfw_55 (rm := rmL_changes) [.ref (rA G 0 0), .int ((0 : Int32)), .int r_8, .int ((0 : Int32)), .ref (rA G 24 0)] [] hf (fun _ _ h => ctL_changes l G hl9 o_6 ((0 : Int32)) r_8 ((0 : Int32)) h) ⟨Nat.le_of_ble_eq_true rfl, Nat.le_of_ble_eq_true rfl⟩ ⟨Nat.le_of_ble_eq_true rfl, Nat.le_of_ble_eq_true rfl⟩ rfl rfl hl.1 (Nat.le_of_ble_eq_true rfl) dL_act_382 (fun r_16 o_17 H1 L1 P hf => ?_)
                      refine r_goto C dL_act_385 ?_
                      exact j435 o_17 r_16 _ _ _ P (lv_sub hl [] rfl) hf
                · refine r_aload_n C hl 1 rfl rfl dL_act_316 ?_
                  refine r_iconst C (v := 3) (by decide) dL_act_317 ?_
                  refine r_iload C hl 4 rfl dL_act_318 ?_
                  refine r_iload C hl 5 rfl dL_act_320 ?_
                  refine r_jn (fun k332 : Int32 → Option (Int32 × OM) => ∀ (s_18 : Int32) H1 L1 ls, Hp G o_6 s H1 L1 → lv_has ls 8 [(2, .ref (rA G 24 0)), (4, .int v4_2), (5, .int s_4)] → k332 s_18 = some (r, o9) → W p l e rmL_act s m args below meth c H1 L1 0 0 (Qm G (some (.int r)) o9 rmL_act below args s) (F0 m 332 ls [.int s_18, .int v4_2, .int ((3 : Int32)), .ref (rA G 0 0)])) hf ?_ (fun k332 j332 hf => ?_)
                  · intro s_18 H1 L1 ls  P hl hf
                    refine r_qSi C P cf_L_43 (rm := rmL_low) [.int v4_2, .int s_18] [.int ((3 : Int32)), .ref (rA G 0 0)] hf (fun _ h => ctL_low l G o_6 v4_2 s_18 h) ⟨rfl, rfl⟩ ⟨Nat.le_of_ble_eq_true rfl, Nat.le_of_ble_eq_true rfl⟩ ⟨Nat.le_of_ble_eq_true rfl, Nat.le_of_ble_eq_true rfl⟩ rfl rfl hl.1 (Nat.le_of_ble_eq_true rfl) dL_act_332 (fun r_19 H1 L1 P hf => ?_)
                    refine r_iload C hl 1 rfl dL_act_335 ?_
                    refine r_iconst C (v := 3) (by decide) dL_act_337 ?_
                    refine r_ishr C dL_act_338 ?_
                    refine r_iload C hl 2 rfl dL_act_339 ?_
                    refine r_jn (fun k351 : Int32 → Option (Int32 × OM) => ∀ (s_20 : Int32) H1 L1 ls, Hp G o_6 s H1 L1 → lv_has ls 8 [(2, .ref (rA G 24 0))] → k351 s_20 = some (r, o9) → W p l e rmL_act s m args below meth c H1 L1 0 0 (Qm G (some (.int r)) o9 rmL_act below args s) (F0 m 351 ls [.int s_20, .int (v4_2 >>> (((3 : Int32)) &&& 31)), .int r_19, .int ((3 : Int32)), .ref (rA G 0 0)])) hf ?_ (fun k351 j351 hf => ?_)
                    · intro s_20 H1 L1 ls  P hl hf
                      refine r_qSi C P cf_L_43 (rm := rmL_low) [.int (v4_2 >>> (((3 : Int32)) &&& 31)), .int s_20] [.int r_19, .int ((3 : Int32)), .ref (rA G 0 0)] hf (fun _ h => ctL_low l G o_6 (v4_2 >>> (((3 : Int32)) &&& 31)) s_20 h) ⟨rfl, rfl⟩ ⟨Nat.le_of_ble_eq_true rfl, Nat.le_of_ble_eq_true rfl⟩ ⟨Nat.le_of_ble_eq_true rfl, Nat.le_of_ble_eq_true rfl⟩ rfl rfl hl.1 (Nat.le_of_ble_eq_true rfl) dL_act_351 (fun r_21 H1 L1 P hf => ?_)
                      refine r_aload_n C hl 0 rfl rfl dL_act_354 ?_
                      refine m_cX C X P cfw_55 (rm := rmL_changes) [.ref (rA G 0 0), .int ((3 : Int32)), .int r_19, .int r_21, .ref (rA G 24 0)] [] hf (fun _ _ h => ctL_changes l G hl9 o_6 ((3 : Int32)) r_19 r_21 h) ⟨Nat.le_of_ble_eq_true rfl, Nat.le_of_ble_eq_true rfl⟩ ⟨Nat.le_of_ble_eq_true rfl, Nat.le_of_ble_eq_true rfl⟩ rfl rfl hl.1 (Nat.le_of_ble_eq_true rfl) dL_act_355 (fun r_22 o_23 H1 L1 P hf => ?_)
                      refine r_goto C dL_act_358 ?_
                      exact j435 o_23 r_22 _ _ _ P (lv_sub hl [] rfl) hf
                    refine r_if_eq C dL_act_341 hf (fun hf => ?_) (fun hf => ?_)
                    · refine r_bipush C (v := 120) (by decide) dL_act_349 ?_
                      exact j351 ((120 : Int32)) _ _ _ P (lv_sub hl [0] rfl) hf
                    · refine r_bipush C (v := 21) (by decide) dL_act_344 ?_
                      refine r_goto C dL_act_346 ?_
                      exact j351 ((21 : Int32)) _ _ _ P (lv_sub hl [0] rfl) hf
                  refine r_if_eq C dL_act_322 hf (fun hf => ?_) (fun hf => ?_)
                  · refine r_bipush C (v := 8) (by decide) dL_act_330 ?_
                    exact j332 ((8 : Int32)) _ _ _ P (lv_sub hl [2, 4, 5] rfl) hf
                  · refine r_bipush C (v := 7) (by decide) dL_act_325 ?_
                    refine r_goto C dL_act_327 ?_
                    exact j332 ((7 : Int32)) _ _ _ P (lv_sub hl [2, 4, 5] rfl) hf
              · refine r_aload_n C hl 1 rfl rfl dL_act_286 ?_
                refine r_iconst C (v := 2) (by decide) dL_act_287 ?_
                refine r_iload C hl 4 rfl dL_act_288 ?_
                refine r_iload C hl 5 rfl dL_act_290 ?_
                refine r_jn (fun k301 : Int32 → Option (Int32 × OM) => ∀ (s_24 : Int32) H1 L1 ls, Hp G o_6 s H1 L1 → lv_has ls 8 [(2, .ref (rA G 24 0))] → k301 s_24 = some (r, o9) → W p l e rmL_act s m args below meth c H1 L1 0 0 (Qm G (some (.int r)) o9 rmL_act below args s) (F0 m 301 ls [.int s_24, .int v4_2, .int ((2 : Int32)), .ref (rA G 0 0)])) hf ?_ (fun k301 j301 hf => ?_)
                · intro s_24 H1 L1 ls  P hl hf
                  refine r_qSi C P cf_L_43 (rm := rmL_low) [.int v4_2, .int s_24] [.int ((2 : Int32)), .ref (rA G 0 0)] hf (fun _ h => ctL_low l G o_6 v4_2 s_24 h) ⟨rfl, rfl⟩ ⟨Nat.le_of_ble_eq_true rfl, Nat.le_of_ble_eq_true rfl⟩ ⟨Nat.le_of_ble_eq_true rfl, Nat.le_of_ble_eq_true rfl⟩ rfl rfl hl.1 (Nat.le_of_ble_eq_true rfl) dL_act_301 (fun r_25 H1 L1 P hf => ?_)
                  refine r_iconst C (v := 0) (by decide) dL_act_304 ?_
                  refine r_aload_n C hl 0 rfl rfl dL_act_305 ?_
                  refine m_cX C X P cfw_55 (rm := rmL_changes) [.ref (rA G 0 0), .int ((2 : Int32)), .int r_25, .int ((0 : Int32)), .ref (rA G 24 0)] [] hf (fun _ _ h => ctL_changes l G hl9 o_6 ((2 : Int32)) r_25 ((0 : Int32)) h) ⟨Nat.le_of_ble_eq_true rfl, Nat.le_of_ble_eq_true rfl⟩ ⟨Nat.le_of_ble_eq_true rfl, Nat.le_of_ble_eq_true rfl⟩ rfl rfl hl.1 (Nat.le_of_ble_eq_true rfl) dL_act_306 (fun r_26 o_27 H1 L1 P hf => ?_)
                  exact r_iret C P (rm := rmL_act) ⟨rfl, rfl⟩ dL_act_309 hf
                refine r_if_eq C dL_act_292 hf (fun hf => ?_) (fun hf => ?_)
                · refine r_bipush C (v := 25) (by decide) dL_act_299 ?_
                  exact j301 ((25 : Int32)) _ _ _ P (lv_sub hl [2] rfl) hf
                · refine r_iconst C (v := 4) (by decide) dL_act_295 ?_
                  refine r_goto C dL_act_296 ?_
                  exact j301 ((4 : Int32)) _ _ _ P (lv_sub hl [2] rfl) hf
            · refine r_aload_n C hl 1 rfl rfl dL_act_204 ?_
              refine r_iconst C (v := 1) (by decide) dL_act_205 ?_
              refine r_iload C hl 4 rfl dL_act_206 ?_
              refine r_iload C hl 5 rfl dL_act_208 ?_
              refine r_jn (fun k218 : Int32 → Option (Int32 × OM) => ∀ (s_28 : Int32) H1 L1 ls, Hp G o_6 s H1 L1 → lv_has ls 8 [(2, .ref (rA G 24 0)), (4, .int v4_2), (5, .int s_4)] → k218 s_28 = some (r, o9) → W p l e rmL_act s m args below meth c H1 L1 0 0 (Qm G (some (.int r)) o9 rmL_act below args s) (F0 m 218 ls [.int s_28, .int v4_2, .int ((1 : Int32)), .ref (rA G 0 0)])) hf ?_ (fun k218 j218 hf => ?_)
              · intro s_28 H1 L1 ls  P hl hf
                refine r_qSi C P cf_L_43 (rm := rmL_low) [.int v4_2, .int s_28] [.int ((1 : Int32)), .ref (rA G 0 0)] hf (fun _ h => ctL_low l G o_6 v4_2 s_28 h) ⟨rfl, rfl⟩ ⟨Nat.le_of_ble_eq_true rfl, Nat.le_of_ble_eq_true rfl⟩ ⟨Nat.le_of_ble_eq_true rfl, Nat.le_of_ble_eq_true rfl⟩ rfl rfl hl.1 (Nat.le_of_ble_eq_true rfl) dL_act_218 (fun r_29 H1 L1 P hf => ?_)
                refine r_iload C hl 1 rfl dL_act_221 ?_
                refine r_iconst C (v := 3) (by decide) dL_act_223 ?_
                refine r_ishr C dL_act_224 ?_
                refine r_iconst C (v := 3) (by decide) dL_act_225 ?_
                refine r_iand C dL_act_226 ?_
                refine r_jn (fun k275 : Int32 → Option (Int32 × OM) => ∀ (s_30 : Int32) H1 L1 ls, Hp G o_6 s H1 L1 → lv_has ls 8 [(2, .ref (rA G 24 0))] → k275 s_30 = some (r, o9) → W p l e rmL_act s m args below meth c H1 L1 0 0 (Qm G (some (.int r)) o9 rmL_act below args s) (F0 m 275 ls [.int s_30, .int r_29, .int ((1 : Int32)), .ref (rA G 0 0)])) hf ?_ (fun k275 j275 hf => ?_)
                · intro s_30 H1 L1 ls  P hl hf
                  refine r_aload_n C hl 0 rfl rfl dL_act_275 ?_
                  refine m_cX C X P cfw_55 (rm := rmL_changes) [.ref (rA G 0 0), .int ((1 : Int32)), .int r_29, .int s_30, .ref (rA G 24 0)] [] hf (fun _ _ h => ctL_changes l G hl9 o_6 ((1 : Int32)) r_29 s_30 h) ⟨Nat.le_of_ble_eq_true rfl, Nat.le_of_ble_eq_true rfl⟩ ⟨Nat.le_of_ble_eq_true rfl, Nat.le_of_ble_eq_true rfl⟩ rfl rfl hl.1 (Nat.le_of_ble_eq_true rfl) dL_act_276 (fun r_31 o_32 H1 L1 P hf => ?_)
                  exact r_iret C P (rm := rmL_act) ⟨rfl, rfl⟩ dL_act_279 hf
                refine r_if_ne C dL_act_227 hf (fun hf => ?_) (fun hf => ?_)
                · refine r_iload C hl 1 rfl dL_act_234 ?_
                  refine r_iconst C (v := 3) (by decide) dL_act_236 ?_
                  refine r_ishr C dL_act_237 ?_
                  refine r_iconst C (v := 3) (by decide) dL_act_238 ?_
                  refine r_iand C dL_act_239 ?_
                  refine r_iconst C (v := 1) (by decide) dL_act_240 ?_
                  refine r_icmp_ne C dL_act_241 hf (fun hf => ?_) (fun hf => ?_)
                  · refine r_iload C hl 1 rfl dL_act_250 ?_
                    refine r_iconst C (v := 5) (by decide) dL_act_252 ?_
                    refine r_ishr C dL_act_253 ?_
                    refine r_iload C hl 2 rfl dL_act_254 ?_
                    refine r_jn (fun k268 : Int32 → Option (Int32 × OM) => ∀ (s_33 : Int32) H1 L1 ls, Hp G o_6 s H1 L1 → lv_has ls 8 [(2, .ref (rA G 24 0))] → k268 s_33 = some (r, o9) → W p l e rmL_act s m args below meth c H1 L1 0 0 (Qm G (some (.int r)) o9 rmL_act below args s) (F0 m 268 ls [.int s_33, .int (v4_2 >>> (((5 : Int32)) &&& 31)), .int r_29, .int ((1 : Int32)), .ref (rA G 0 0)])) hf ?_ (fun k268 j268 hf => ?_)
                    · intro s_33 H1 L1 ls  P hl hf
                      refine r_qSi C P cf_L_43 (rm := rmL_low) [.int (v4_2 >>> (((5 : Int32)) &&& 31)), .int s_33] [.int r_29, .int ((1 : Int32)), .ref (rA G 0 0)] hf (fun _ h => ctL_low l G o_6 (v4_2 >>> (((5 : Int32)) &&& 31)) s_33 h) ⟨rfl, rfl⟩ ⟨Nat.le_of_ble_eq_true rfl, Nat.le_of_ble_eq_true rfl⟩ ⟨Nat.le_of_ble_eq_true rfl, Nat.le_of_ble_eq_true rfl⟩ rfl rfl hl.1 (Nat.le_of_ble_eq_true rfl) dL_act_268 (fun r_34 H1 L1 P hf => ?_)
                      refine r_sipush C (v := 400) (by decide) dL_act_271 ?_
                      refine r_isub C dL_act_274 ?_
                      exact j275 (r_34 - ((400 : Int32))) _ _ _ P (lv_sub hl [0] rfl) hf
                    refine r_if_eq C dL_act_256 hf (fun hf => ?_) (fun hf => ?_)
                    · refine r_sipush C (v := 2100) (by decide) dL_act_265 ?_
                      exact j268 ((2100 : Int32)) _ _ _ P (lv_sub hl [0] rfl) hf
                    · refine r_sipush C (v := 1901) (by decide) dL_act_259 ?_
                      refine r_goto C dL_act_262 ?_
                      exact j268 ((1901 : Int32)) _ _ _ P (lv_sub hl [0] rfl) hf
                  · refine r_sipush C (v := 1000) (by decide) dL_act_244 ?_
                    refine r_goto C dL_act_247 ?_
                    exact j275 ((1000 : Int32)) _ _ _ P (lv_sub hl [0] rfl) hf
                · refine r_iconst C (v := 0) (by decide) dL_act_230 ?_
                  refine r_goto C dL_act_231 ?_
                  exact j275 ((0 : Int32)) _ _ _ P (lv_sub hl [0] rfl) hf
              refine r_if_eq C dL_act_210 hf (fun hf => ?_) (fun hf => ?_)
              · refine r_iconst C (v := 5) (by decide) dL_act_217 ?_
                exact j218 ((5 : Int32)) _ _ _ P (lv_sub hl [2, 4, 5] rfl) hf
              · refine r_iconst C (v := 4) (by decide) dL_act_213 ?_
                refine r_goto C dL_act_214 ?_
                exact j218 ((4 : Int32)) _ _ _ P (lv_sub hl [2, 4, 5] rfl) hf
          · refine r_aload_n C hl 1 rfl rfl dL_act_187 ?_
            refine r_bipush C (v := 6) (by decide) dL_act_188 ?_
            refine r_iload C hl 0 rfl dL_act_190 ?_
            refine r_iconst C (v := 0) (by decide) dL_act_192 ?_
            refine r_aload_n C hl 2 rfl rfl dL_act_193 ?_
            refine m_cX C X P cfw_55 (rm := rmL_changes) [.ref (rA G 0 0), .int ((6 : Int32)), .int r_8, .int ((0 : Int32)), .ref (rA G 24 0)] [] hf (fun _ _ h => ctL_changes l G hl9 o_6 ((6 : Int32)) r_8 ((0 : Int32)) h) ⟨Nat.le_of_ble_eq_true rfl, Nat.le_of_ble_eq_true rfl⟩ ⟨Nat.le_of_ble_eq_true rfl, Nat.le_of_ble_eq_true rfl⟩ rfl rfl hl.1 (Nat.le_of_ble_eq_true rfl) dL_act_194 (fun r_35 o_36 H1 L1 P hf => ?_)
            exact r_iret C P (rm := rmL_act) ⟨rfl, rfl⟩ dL_act_197 hf
        · refine r_aload_n C hl 1 rfl rfl dL_act_155 ?_
          refine r_iconst C (v := 4) (by decide) dL_act_156 ?_
          refine r_iload C hl 0 rfl dL_act_157 ?_
          refine r_iload C hl 4 rfl dL_act_159 ?_
          refine r_iconst C (v := 3) (by decide) dL_act_161 ?_
          refine r_ishr C dL_act_162 ?_
          refine r_iload C hl 5 rfl dL_act_163 ?_
          refine r_jn (fun k173 : Int32 → Option (Int32 × OM) => ∀ (s_37 : Int32) H1 L1 ls, Hp G o_6 s H1 L1 → lv_has ls 8 [(2, .ref (rA G 24 0))] → k173 s_37 = some (r, o9) → W p l e rmL_act s m args below meth c H1 L1 0 0 (Qm G (some (.int r)) o9 rmL_act below args s) (F0 m 173 ls [.int s_37, .int (v4_2 >>> (((3 : Int32)) &&& 31)), .int r_8, .int ((4 : Int32)), .ref (rA G 0 0)])) hf ?_ (fun k173 j173 hf => ?_)
          · intro s_37 H1 L1 ls  P hl hf
            refine r_qSi C P cf_L_43 (rm := rmL_low) [.int (v4_2 >>> (((3 : Int32)) &&& 31)), .int s_37] [.int r_8, .int ((4 : Int32)), .ref (rA G 0 0)] hf (fun _ h => ctL_low l G o_6 (v4_2 >>> (((3 : Int32)) &&& 31)) s_37 h) ⟨rfl, rfl⟩ ⟨Nat.le_of_ble_eq_true rfl, Nat.le_of_ble_eq_true rfl⟩ ⟨Nat.le_of_ble_eq_true rfl, Nat.le_of_ble_eq_true rfl⟩ rfl rfl hl.1 (Nat.le_of_ble_eq_true rfl) dL_act_173 (fun r_38 H1 L1 P hf => ?_)
            refine r_aload_n C hl 0 rfl rfl dL_act_176 ?_
            refine m_cX C X P cfw_55 (rm := rmL_changes) [.ref (rA G 0 0), .int ((4 : Int32)), .int r_8, .int r_38, .ref (rA G 24 0)] [] hf (fun _ _ h => ctL_changes l G hl9 o_6 ((4 : Int32)) r_8 r_38 h) ⟨Nat.le_of_ble_eq_true rfl, Nat.le_of_ble_eq_true rfl⟩ ⟨Nat.le_of_ble_eq_true rfl, Nat.le_of_ble_eq_true rfl⟩ rfl rfl hl.1 (Nat.le_of_ble_eq_true rfl) dL_act_177 (fun r_39 o_40 H1 L1 P hf => ?_)
            exact r_iret C P (rm := rmL_act) ⟨rfl, rfl⟩ dL_act_180 hf
          refine r_if_eq C dL_act_165 hf (fun hf => ?_) (fun hf => ?_)
          · refine r_iconst C (v := 5) (by decide) dL_act_172 ?_
            exact j173 ((5 : Int32)) _ _ _ P (lv_sub hl [2] rfl) hf
          · refine r_iconst C (v := 4) (by decide) dL_act_168 ?_
            refine r_goto C dL_act_169 ?_
            exact j173 ((4 : Int32)) _ _ _ P (lv_sub hl [2] rfl) hf
      · refine r_aload_n C hl 1 rfl rfl dL_act_69 ?_
        refine r_iload C hl 4 rfl dL_act_70 ?_
        refine r_iload C hl 5 rfl dL_act_72 ?_
        refine r_jn (fun k84 : Int32 → Option (Int32 × OM) => ∀ (s_41 : Int32) H1 L1 ls, Hp G o_6 s H1 L1 → lv_has ls 8 [(2, .ref (rA G 24 0)), (4, .int v4_2), (5, .int s_4)] → k84 s_41 = some (r, o9) → W p l e rmL_act s m args below meth c H1 L1 0 0 (Qm G (some (.int r)) o9 rmL_act below args s) (F0 m 84 ls [.int s_41, .int v4_2, .ref (rA G 0 0)])) hf ?_ (fun k84 j84 hf => ?_)
        · intro s_41 H1 L1 ls  P hl hf
          refine r_qSi C P cf_L_43 (rm := rmL_low) [.int v4_2, .int s_41] [.ref (rA G 0 0)] hf (fun _ h => ctL_low l G o_6 v4_2 s_41 h) ⟨rfl, rfl⟩ ⟨Nat.le_of_ble_eq_true rfl, Nat.le_of_ble_eq_true rfl⟩ ⟨Nat.le_of_ble_eq_true rfl, Nat.le_of_ble_eq_true rfl⟩ rfl rfl hl.1 (Nat.le_of_ble_eq_true rfl) dL_act_84 (fun r_42 H1 L1 P hf => ?_)
          refine r_bipush C (v := 50) (by decide) dL_act_87 ?_
          refine r_isub C dL_act_89 ?_
          refine r_iload C hl 1 rfl dL_act_90 ?_
          refine r_iconst C (v := 3) (by decide) dL_act_92 ?_
          refine r_ishr C dL_act_93 ?_
          refine r_iload C hl 2 rfl dL_act_94 ?_
          refine r_jn (fun k106 : Int32 → Option (Int32 × OM) => ∀ (s_43 : Int32) H1 L1 ls, Hp G o_6 s H1 L1 → lv_has ls 8 [(2, .ref (rA G 24 0)), (4, .int v4_2), (5, .int s_4)] → k106 s_43 = some (r, o9) → W p l e rmL_act s m args below meth c H1 L1 0 0 (Qm G (some (.int r)) o9 rmL_act below args s) (F0 m 106 ls [.int s_43, .int (v4_2 >>> (((3 : Int32)) &&& 31)), .int (r_42 - ((50 : Int32))), .ref (rA G 0 0)])) hf ?_ (fun k106 j106 hf => ?_)
          · intro s_43 H1 L1 ls  P hl hf
            refine r_qSi C P cf_L_43 (rm := rmL_low) [.int (v4_2 >>> (((3 : Int32)) &&& 31)), .int s_43] [.int (r_42 - ((50 : Int32))), .ref (rA G 0 0)] hf (fun _ h => ctL_low l G o_6 (v4_2 >>> (((3 : Int32)) &&& 31)) s_43 h) ⟨rfl, rfl⟩ ⟨Nat.le_of_ble_eq_true rfl, Nat.le_of_ble_eq_true rfl⟩ ⟨Nat.le_of_ble_eq_true rfl, Nat.le_of_ble_eq_true rfl⟩ rfl rfl hl.1 (Nat.le_of_ble_eq_true rfl) dL_act_106 (fun r_44 H1 L1 P hf => ?_)
            refine r_bipush C (v := 50) (by decide) dL_act_109 ?_
            refine r_isub C dL_act_111 ?_
            refine r_iload C hl 1 rfl dL_act_112 ?_
            refine r_bipush C (v := 6) (by decide) dL_act_114 ?_
            refine r_ishr C dL_act_116 ?_
            refine r_iload C hl 2 rfl dL_act_117 ?_
            refine r_jn (fun k141 : Int32 → Option (Int32 × OM) => ∀ (s_45 : Int32) H1 L1 ls, Hp G o_6 s H1 L1 → lv_has ls 8 [(2, .ref (rA G 24 0))] → k141 s_45 = some (r, o9) → W p l e rmL_act s m args below meth c H1 L1 0 0 (Qm G (some (.int r)) o9 rmL_act below args s) (F0 m 141 ls [.int s_45, .int (v4_2 >>> (((6 : Int32)) &&& 31)), .int (r_44 - ((50 : Int32))), .int (r_42 - ((50 : Int32))), .ref (rA G 0 0)])) hf ?_ (fun k141 j141 hf => ?_)
            · intro s_45 H1 L1 ls  P hl hf
              refine r_qSi C P cf_L_43 (rm := rmL_low) [.int (v4_2 >>> (((6 : Int32)) &&& 31)), .int s_45] [.int (r_44 - ((50 : Int32))), .int (r_42 - ((50 : Int32))), .ref (rA G 0 0)] hf (fun _ h => ctL_low l G o_6 (v4_2 >>> (((6 : Int32)) &&& 31)) s_45 h) ⟨rfl, rfl⟩ ⟨Nat.le_of_ble_eq_true rfl, Nat.le_of_ble_eq_true rfl⟩ ⟨Nat.le_of_ble_eq_true rfl, Nat.le_of_ble_eq_true rfl⟩ rfl rfl hl.1 (Nat.le_of_ble_eq_true rfl) dL_act_141 (fun r_46 H1 L1 P hf => ?_)
              refine r_aload_n C hl 0 rfl rfl dL_act_144 ?_
              refine m_cX C X P cfw_51 (rm := rmL_makes) [.ref (rA G 0 0), .int (r_42 - ((50 : Int32))), .int (r_44 - ((50 : Int32))), .int r_46, .ref (rA G 24 0)] [] hf (fun _ _ h => ctL_makes l G hl9 o_6 (r_42 - ((50 : Int32))) (r_44 - ((50 : Int32))) r_46 h) ⟨Nat.le_of_ble_eq_true rfl, Nat.le_of_ble_eq_true rfl⟩ ⟨Nat.le_of_ble_eq_true rfl, Nat.le_of_ble_eq_true rfl⟩ rfl rfl hl.1 (Nat.le_of_ble_eq_true rfl) dL_act_145 (fun r_47 o_48 H1 L1 P hf => ?_)
              exact r_iret C P (rm := rmL_act) ⟨rfl, rfl⟩ dL_act_148 hf
            refine r_if_eq C dL_act_119 hf (fun hf => ?_) (fun hf => ?_)
            · refine r_iconst C (v := 5) (by decide) dL_act_140 ?_
              exact j141 ((5 : Int32)) _ _ _ P (lv_sub hl [0] rfl) hf
            · refine r_iload C hl 1 rfl dL_act_122 ?_
              refine r_bipush C (v := 9) (by decide) dL_act_124 ?_
              refine r_ishr C dL_act_126 ?_
              refine r_iconst C (v := 1) (by decide) dL_act_127 ?_
              refine r_iand C dL_act_128 ?_
              refine r_if_ne C dL_act_129 hf (fun hf => ?_) (fun hf => ?_)
              · refine r_iconst C (v := 1) (by decide) dL_act_136 ?_
                refine r_goto C dL_act_137 ?_
                exact j141 ((1 : Int32)) _ _ _ P (lv_sub hl [0] rfl) hf
              · refine r_iconst C (v := 4) (by decide) dL_act_132 ?_
                refine r_goto C dL_act_133 ?_
                exact j141 ((4 : Int32)) _ _ _ P (lv_sub hl [0] rfl) hf
          refine r_if_eq C dL_act_96 hf (fun hf => ?_) (fun hf => ?_)
          · refine r_bipush C (v := 110) (by decide) dL_act_104 ?_
            exact j106 ((110 : Int32)) _ _ _ P (lv_sub hl [0, 1, 2] rfl) hf
          · refine r_bipush C (v := 101) (by decide) dL_act_99 ?_
            refine r_goto C dL_act_101 ?_
            exact j106 ((101 : Int32)) _ _ _ P (lv_sub hl [0, 1, 2] rfl) hf
        refine r_if_eq C dL_act_74 hf (fun hf => ?_) (fun hf => ?_)
        · refine r_bipush C (v := 110) (by decide) dL_act_82 ?_
          exact j84 ((110 : Int32)) _ _ _ P (lv_sub hl [2, 4, 5] rfl) hf
        · refine r_bipush C (v := 101) (by decide) dL_act_77 ?_
          refine r_goto C dL_act_79 ?_
          exact j84 ((101 : Int32)) _ _ _ P (lv_sub hl [2, 4, 5] rfl) hf
    refine r_jn (fun k55 : Unit → Option (Int32 × OM) => ∀ H1 L1 ls, Hp G o_6 s H1 L1 → lv_has ls 8 [(0, .ref (rA G 0 0)), (2, .ref (rA G 24 0)), (3, .int r_1), (4, .int v4_2), (5, .int s_4), (6, .int r_5)] → k55 () = some (r, o9) → W p l e rmL_act s m args below meth c H1 L1 0 0 (Qm G (some (.int r)) o9 rmL_act below args s) (F0 m 55 ls [.int v4_2])) hf ?_ (fun k55 j55 hf => ?_)
    · intro  H1 L1 ls  P hl hf
      refine r_iload C hl 5 rfl dL_act_55 ?_
      refine r_iconst C (v := 1) (by decide) dL_act_57 ?_
      refine r_iadd2 C dL_act_58 ?_
      exact j59 (r_5 + ((1 : Int32))) _ _ _ P (lv_sub hl [0, 1, 2, 3, 4] rfl) hf
    refine r_if_eq C dL_act_42 hf (fun hf => ?_) (fun hf => ?_)
    · exact j55  _ _ _ P (lv_sub hl [2, 3, 4, 5, 1, 0] rfl) hf
    · refine r_iload C hl 0 rfl dL_act_45 ?_
      refine r_if_le C dL_act_47 hf (fun hf => ?_) (fun hf => ?_)
      · exact j55  _ _ _ P (lv_sub hl [2, 3, 4, 5, 1, 0] rfl) hf
      · refine r_iload C hl 0 rfl dL_act_50 ?_
        refine r_goto C dL_act_52 ?_
        exact j59 r_5 _ _ _ P (lv_sub hl [2, 3, 4, 5, 1] rfl) hf
  refine r_if_le C dL_act_21 hf (fun hf => ?_) (fun hf => ?_)
  · refine r_iconst C (v := 0) (by decide) dL_act_28 ?_
    exact j29 ((0 : Int32)) _ _ _ P (lv_sub hl [2, 4, 1, 0] rfl) hf
  · refine r_iconst C (v := 1) (by decide) dL_act_24 ?_
    refine r_goto C dL_act_25 ?_
    exact j29 ((1 : Int32)) _ _ _ P (lv_sub hl [2, 4, 1, 0] rfl) hf
theorem ctL_act (l : Launch) (G : Gd) (hl9 : l.stackTraces = false) (o : OM) (v1 : Int32)  {r : Int32} {o9 : OM} (hf : F_L_act o v1 = some (r, o9)) : Ctm l yL_act cL_act 8 (some .int) rmL_act G [.ref (rA G 0 0), .int v1, .ref (rA G 24 0)] o (some (.int r)) o9 := ctm_of (by decide +kernel) (Nat.le_of_ble_eq_true rfl) (fun p e s m below meth c ls C X P hl => wL_act C X hl9  P hl hf)
