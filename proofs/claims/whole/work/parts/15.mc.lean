-- DeepChannelModel.mends(I)Z
abbrev b_Mo_mends : ByteArray := prog_13_method_39_code
abbrev y_Mo_mends : MethodName := ⟨"DeepChannelModel", "mends", "(I)Z"⟩
theorem d_Mo_mends_0 : decode b_Mo_mends 0 = .ok (.iconst 0, 1) := by decide +kernel
theorem d_Mo_mends_1 : decode b_Mo_mends 1 = .ok (.istore_n 2, 1) := by decide +kernel
theorem d_Mo_mends_2 : decode b_Mo_mends 2 = .ok (.iload_n 2, 1) := by decide +kernel
theorem d_Mo_mends_3 : decode b_Mo_mends 3 = .ok (.iload_n 1, 1) := by decide +kernel
theorem d_Mo_mends_4 : decode b_Mo_mends 4 = .ok (.if_icmp .ge 41, 3) := by decide +kernel
theorem d_Mo_mends_7 : decode b_Mo_mends 7 = .ok (.iconst 0, 1) := by decide +kernel
theorem d_Mo_mends_8 : decode b_Mo_mends 8 = .ok (.istore_n 3, 1) := by decide +kernel
theorem d_Mo_mends_9 : decode b_Mo_mends 9 = .ok (.iload_n 3, 1) := by decide +kernel
theorem d_Mo_mends_10 : decode b_Mo_mends 10 = .ok (.iload_n 1, 1) := by decide +kernel
theorem d_Mo_mends_11 : decode b_Mo_mends 11 = .ok (.if_icmp .gt 28, 3) := by decide +kernel
theorem d_Mo_mends_14 : decode b_Mo_mends 14 = .ok (.aload_n 0, 1) := by decide +kernel
theorem d_Mo_mends_15 : decode b_Mo_mends 15 = .ok (.getfield 87, 3) := by decide +kernel
theorem d_Mo_mends_18 : decode b_Mo_mends 18 = .ok (.bipush 33, 2) := by decide +kernel
theorem d_Mo_mends_20 : decode b_Mo_mends 20 = .ok (.iload_n 2, 1) := by decide +kernel
theorem d_Mo_mends_21 : decode b_Mo_mends 21 = .ok (.imul, 1) := by decide +kernel
theorem d_Mo_mends_22 : decode b_Mo_mends 22 = .ok (.iload_n 3, 1) := by decide +kernel
theorem d_Mo_mends_23 : decode b_Mo_mends 23 = .ok (.iadd, 1) := by decide +kernel
theorem d_Mo_mends_24 : decode b_Mo_mends 24 = .ok (.aload_n 0, 1) := by decide +kernel
theorem d_Mo_mends_25 : decode b_Mo_mends 25 = .ok (.getfield 84, 3) := by decide +kernel
theorem d_Mo_mends_28 : decode b_Mo_mends 28 = .ok (.iload_n 2, 1) := by decide +kernel
theorem d_Mo_mends_29 : decode b_Mo_mends 29 = .ok (.iload_n 3, 1) := by decide +kernel
theorem d_Mo_mends_30 : decode b_Mo_mends 30 = .ok (.iadd, 1) := by decide +kernel
theorem d_Mo_mends_31 : decode b_Mo_mends 31 = .ok (.iaload, 1) := by decide +kernel
theorem d_Mo_mends_32 : decode b_Mo_mends 32 = .ok (.iastore, 1) := by decide +kernel
theorem d_Mo_mends_33 : decode b_Mo_mends 33 = .ok (.iinc 3 1, 3) := by decide +kernel
theorem d_Mo_mends_36 : decode b_Mo_mends 36 = .ok (.goto (-27), 3) := by decide +kernel
theorem d_Mo_mends_39 : decode b_Mo_mends 39 = .ok (.iinc 2 1, 3) := by decide +kernel
theorem d_Mo_mends_42 : decode b_Mo_mends 42 = .ok (.goto (-40), 3) := by decide +kernel
theorem d_Mo_mends_45 : decode b_Mo_mends 45 = .ok (.aload_n 0, 1) := by decide +kernel
theorem d_Mo_mends_46 : decode b_Mo_mends 46 = .ok (.iload_n 1, 1) := by decide +kernel
theorem d_Mo_mends_47 : decode b_Mo_mends 47 = .ok (.invokevirtual 185, 3) := by decide +kernel
theorem d_Mo_mends_50 : decode b_Mo_mends 50 = .ok (.ifCond .ne 5, 3) := by decide +kernel
theorem d_Mo_mends_53 : decode b_Mo_mends 53 = .ok (.iconst 0, 1) := by decide +kernel
theorem d_Mo_mends_54 : decode b_Mo_mends 54 = .ok (.ireturn, 1) := by decide +kernel
theorem d_Mo_mends_55 : decode b_Mo_mends 55 = .ok (.iconst 0, 1) := by decide +kernel
theorem d_Mo_mends_56 : decode b_Mo_mends 56 = .ok (.istore_n 2, 1) := by decide +kernel
theorem d_Mo_mends_57 : decode b_Mo_mends 57 = .ok (.iconst 0, 1) := by decide +kernel
theorem d_Mo_mends_58 : decode b_Mo_mends 58 = .ok (.istore_n 3, 1) := by decide +kernel
theorem d_Mo_mends_59 : decode b_Mo_mends 59 = .ok (.iload_n 3, 1) := by decide +kernel
theorem d_Mo_mends_60 : decode b_Mo_mends 60 = .ok (.aload_n 0, 1) := by decide +kernel
theorem d_Mo_mends_61 : decode b_Mo_mends 61 = .ok (.invokevirtual 110, 3) := by decide +kernel
theorem d_Mo_mends_64 : decode b_Mo_mends 64 = .ok (.if_icmp .ge 75, 3) := by decide +kernel
theorem d_Mo_mends_67 : decode b_Mo_mends 67 = .ok (.aload_n 0, 1) := by decide +kernel
theorem d_Mo_mends_68 : decode b_Mo_mends 68 = .ok (.iload_n 3, 1) := by decide +kernel
theorem d_Mo_mends_69 : decode b_Mo_mends 69 = .ok (.invokevirtual 178, 3) := by decide +kernel
theorem d_Mo_mends_72 : decode b_Mo_mends 72 = .ok (.istore 4, 2) := by decide +kernel
theorem d_Mo_mends_74 : decode b_Mo_mends 74 = .ok (.iconst 1, 1) := by decide +kernel
theorem d_Mo_mends_75 : decode b_Mo_mends 75 = .ok (.istore 5, 2) := by decide +kernel
theorem d_Mo_mends_77 : decode b_Mo_mends 77 = .ok (.iload_n 1, 1) := by decide +kernel
theorem d_Mo_mends_78 : decode b_Mo_mends 78 = .ok (.iconst 1, 1) := by decide +kernel
theorem d_Mo_mends_79 : decode b_Mo_mends 79 = .ok (.isub, 1) := by decide +kernel
theorem d_Mo_mends_80 : decode b_Mo_mends 80 = .ok (.istore 6, 2) := by decide +kernel
theorem d_Mo_mends_82 : decode b_Mo_mends 82 = .ok (.iload 6, 2) := by decide +kernel
theorem d_Mo_mends_84 : decode b_Mo_mends 84 = .ok (.ifCond .lt 27, 3) := by decide +kernel
theorem d_Mo_mends_87 : decode b_Mo_mends 87 = .ok (.aload_n 0, 1) := by decide +kernel
theorem d_Mo_mends_88 : decode b_Mo_mends 88 = .ok (.iload 5, 2) := by decide +kernel
theorem d_Mo_mends_90 : decode b_Mo_mends 90 = .ok (.iload 4, 2) := by decide +kernel
theorem d_Mo_mends_92 : decode b_Mo_mends 92 = .ok (.invokevirtual 175, 3) := by decide +kernel
theorem d_Mo_mends_95 : decode b_Mo_mends 95 = .ok (.aload_n 0, 1) := by decide +kernel
theorem d_Mo_mends_96 : decode b_Mo_mends 96 = .ok (.getfield 90, 3) := by decide +kernel
theorem d_Mo_mends_99 : decode b_Mo_mends 99 = .ok (.iload 6, 2) := by decide +kernel
theorem d_Mo_mends_101 : decode b_Mo_mends 101 = .ok (.iaload, 1) := by decide +kernel
theorem d_Mo_mends_102 : decode b_Mo_mends 102 = .ok (.ixor, 1) := by decide +kernel
theorem d_Mo_mends_103 : decode b_Mo_mends 103 = .ok (.istore 5, 2) := by decide +kernel
theorem d_Mo_mends_105 : decode b_Mo_mends 105 = .ok (.iinc 6 (-1), 3) := by decide +kernel
theorem d_Mo_mends_108 : decode b_Mo_mends 108 = .ok (.goto (-26), 3) := by decide +kernel
theorem d_Mo_mends_111 : decode b_Mo_mends 111 = .ok (.iload 5, 2) := by decide +kernel
theorem d_Mo_mends_113 : decode b_Mo_mends 113 = .ok (.ifCond .ne 20, 3) := by decide +kernel
theorem d_Mo_mends_116 : decode b_Mo_mends 116 = .ok (.iload_n 2, 1) := by decide +kernel
theorem d_Mo_mends_117 : decode b_Mo_mends 117 = .ok (.iload_n 1, 1) := by decide +kernel
theorem d_Mo_mends_118 : decode b_Mo_mends 118 = .ok (.if_icmp .ne 5, 3) := by decide +kernel
theorem d_Mo_mends_121 : decode b_Mo_mends 121 = .ok (.iconst 0, 1) := by decide +kernel
theorem d_Mo_mends_122 : decode b_Mo_mends 122 = .ok (.ireturn, 1) := by decide +kernel
theorem d_Mo_mends_123 : decode b_Mo_mends 123 = .ok (.aload_n 0, 1) := by decide +kernel
theorem d_Mo_mends_124 : decode b_Mo_mends 124 = .ok (.getfield 93, 3) := by decide +kernel
theorem d_Mo_mends_127 : decode b_Mo_mends 127 = .ok (.iload_n 2, 1) := by decide +kernel
theorem d_Mo_mends_128 : decode b_Mo_mends 128 = .ok (.iload_n 3, 1) := by decide +kernel
theorem d_Mo_mends_129 : decode b_Mo_mends 129 = .ok (.iastore, 1) := by decide +kernel
theorem d_Mo_mends_130 : decode b_Mo_mends 130 = .ok (.iinc 2 1, 3) := by decide +kernel
theorem d_Mo_mends_133 : decode b_Mo_mends 133 = .ok (.iinc 3 1, 3) := by decide +kernel
theorem d_Mo_mends_136 : decode b_Mo_mends 136 = .ok (.goto (-77), 3) := by decide +kernel
theorem d_Mo_mends_139 : decode b_Mo_mends 139 = .ok (.iload_n 2, 1) := by decide +kernel
theorem d_Mo_mends_140 : decode b_Mo_mends 140 = .ok (.iload_n 1, 1) := by decide +kernel
theorem d_Mo_mends_141 : decode b_Mo_mends 141 = .ok (.if_icmp .ge 5, 3) := by decide +kernel
theorem d_Mo_mends_144 : decode b_Mo_mends 144 = .ok (.iconst 0, 1) := by decide +kernel
theorem d_Mo_mends_145 : decode b_Mo_mends 145 = .ok (.ireturn, 1) := by decide +kernel
theorem d_Mo_mends_146 : decode b_Mo_mends 146 = .ok (.iconst 0, 1) := by decide +kernel
theorem d_Mo_mends_147 : decode b_Mo_mends 147 = .ok (.istore_n 3, 1) := by decide +kernel
theorem d_Mo_mends_148 : decode b_Mo_mends 148 = .ok (.iload_n 3, 1) := by decide +kernel
theorem d_Mo_mends_149 : decode b_Mo_mends 149 = .ok (.iload_n 1, 1) := by decide +kernel
theorem d_Mo_mends_150 : decode b_Mo_mends 150 = .ok (.if_icmp .ge 66, 3) := by decide +kernel
theorem d_Mo_mends_153 : decode b_Mo_mends 153 = .ok (.iconst 0, 1) := by decide +kernel
theorem d_Mo_mends_154 : decode b_Mo_mends 154 = .ok (.istore 4, 2) := by decide +kernel
theorem d_Mo_mends_156 : decode b_Mo_mends 156 = .ok (.iload 4, 2) := by decide +kernel
theorem d_Mo_mends_158 : decode b_Mo_mends 158 = .ok (.iload_n 1, 1) := by decide +kernel
theorem d_Mo_mends_159 : decode b_Mo_mends 159 = .ok (.if_icmp .ge 34, 3) := by decide +kernel
theorem d_Mo_mends_162 : decode b_Mo_mends 162 = .ok (.aload_n 0, 1) := by decide +kernel
theorem d_Mo_mends_163 : decode b_Mo_mends 163 = .ok (.getfield 87, 3) := by decide +kernel
theorem d_Mo_mends_166 : decode b_Mo_mends 166 = .ok (.bipush 33, 2) := by decide +kernel
theorem d_Mo_mends_168 : decode b_Mo_mends 168 = .ok (.iload_n 3, 1) := by decide +kernel
theorem d_Mo_mends_169 : decode b_Mo_mends 169 = .ok (.imul, 1) := by decide +kernel
theorem d_Mo_mends_170 : decode b_Mo_mends 170 = .ok (.iload 4, 2) := by decide +kernel
theorem d_Mo_mends_172 : decode b_Mo_mends 172 = .ok (.iadd, 1) := by decide +kernel
theorem d_Mo_mends_173 : decode b_Mo_mends 173 = .ok (.aload_n 0, 1) := by decide +kernel
theorem d_Mo_mends_174 : decode b_Mo_mends 174 = .ok (.aload_n 0, 1) := by decide +kernel
theorem d_Mo_mends_175 : decode b_Mo_mends 175 = .ok (.getfield 93, 3) := by decide +kernel
theorem d_Mo_mends_178 : decode b_Mo_mends 178 = .ok (.iload 4, 2) := by decide +kernel
theorem d_Mo_mends_180 : decode b_Mo_mends 180 = .ok (.iaload, 1) := by decide +kernel
theorem d_Mo_mends_181 : decode b_Mo_mends 181 = .ok (.iload_n 3, 1) := by decide +kernel
theorem d_Mo_mends_182 : decode b_Mo_mends 182 = .ok (.imul, 1) := by decide +kernel
theorem d_Mo_mends_183 : decode b_Mo_mends 183 = .ok (.invokevirtual 178, 3) := by decide +kernel
theorem d_Mo_mends_186 : decode b_Mo_mends 186 = .ok (.iastore, 1) := by decide +kernel
theorem d_Mo_mends_187 : decode b_Mo_mends 187 = .ok (.iinc 4 1, 3) := by decide +kernel
theorem d_Mo_mends_190 : decode b_Mo_mends 190 = .ok (.goto (-34), 3) := by decide +kernel
theorem d_Mo_mends_193 : decode b_Mo_mends 193 = .ok (.aload_n 0, 1) := by decide +kernel
theorem d_Mo_mends_194 : decode b_Mo_mends 194 = .ok (.getfield 87, 3) := by decide +kernel
theorem d_Mo_mends_197 : decode b_Mo_mends 197 = .ok (.bipush 33, 2) := by decide +kernel
theorem d_Mo_mends_199 : decode b_Mo_mends 199 = .ok (.iload_n 3, 1) := by decide +kernel
theorem d_Mo_mends_200 : decode b_Mo_mends 200 = .ok (.imul, 1) := by decide +kernel
theorem d_Mo_mends_201 : decode b_Mo_mends 201 = .ok (.iload_n 1, 1) := by decide +kernel
theorem d_Mo_mends_202 : decode b_Mo_mends 202 = .ok (.iadd, 1) := by decide +kernel
theorem d_Mo_mends_203 : decode b_Mo_mends 203 = .ok (.aload_n 0, 1) := by decide +kernel
theorem d_Mo_mends_204 : decode b_Mo_mends 204 = .ok (.getfield 84, 3) := by decide +kernel
theorem d_Mo_mends_207 : decode b_Mo_mends 207 = .ok (.iload_n 3, 1) := by decide +kernel
theorem d_Mo_mends_208 : decode b_Mo_mends 208 = .ok (.iaload, 1) := by decide +kernel
theorem d_Mo_mends_209 : decode b_Mo_mends 209 = .ok (.iastore, 1) := by decide +kernel
theorem d_Mo_mends_210 : decode b_Mo_mends 210 = .ok (.iinc 3 1, 3) := by decide +kernel
theorem d_Mo_mends_213 : decode b_Mo_mends 213 = .ok (.goto (-65), 3) := by decide +kernel
theorem d_Mo_mends_216 : decode b_Mo_mends 216 = .ok (.aload_n 0, 1) := by decide +kernel
theorem d_Mo_mends_217 : decode b_Mo_mends 217 = .ok (.iload_n 1, 1) := by decide +kernel
theorem d_Mo_mends_218 : decode b_Mo_mends 218 = .ok (.invokevirtual 185, 3) := by decide +kernel
theorem d_Mo_mends_221 : decode b_Mo_mends 221 = .ok (.ifCond .ne 5, 3) := by decide +kernel
theorem d_Mo_mends_224 : decode b_Mo_mends 224 = .ok (.iconst 0, 1) := by decide +kernel
theorem d_Mo_mends_225 : decode b_Mo_mends 225 = .ok (.ireturn, 1) := by decide +kernel
theorem d_Mo_mends_226 : decode b_Mo_mends 226 = .ok (.iconst 0, 1) := by decide +kernel
theorem d_Mo_mends_227 : decode b_Mo_mends 227 = .ok (.istore_n 3, 1) := by decide +kernel
theorem d_Mo_mends_228 : decode b_Mo_mends 228 = .ok (.iload_n 3, 1) := by decide +kernel
theorem d_Mo_mends_229 : decode b_Mo_mends 229 = .ok (.iload_n 1, 1) := by decide +kernel
theorem d_Mo_mends_230 : decode b_Mo_mends 230 = .ok (.if_icmp .ge 72, 3) := by decide +kernel
theorem d_Mo_mends_233 : decode b_Mo_mends 233 = .ok (.aload_n 0, 1) := by decide +kernel
theorem d_Mo_mends_234 : decode b_Mo_mends 234 = .ok (.invokevirtual 110, 3) := by decide +kernel
theorem d_Mo_mends_237 : decode b_Mo_mends 237 = .ok (.iconst 1, 1) := by decide +kernel
theorem d_Mo_mends_238 : decode b_Mo_mends 238 = .ok (.isub, 1) := by decide +kernel
theorem d_Mo_mends_239 : decode b_Mo_mends 239 = .ok (.aload_n 0, 1) := by decide +kernel
theorem d_Mo_mends_240 : decode b_Mo_mends 240 = .ok (.getfield 93, 3) := by decide +kernel
theorem d_Mo_mends_243 : decode b_Mo_mends 243 = .ok (.iload_n 3, 1) := by decide +kernel
theorem d_Mo_mends_244 : decode b_Mo_mends 244 = .ok (.iaload, 1) := by decide +kernel
theorem d_Mo_mends_245 : decode b_Mo_mends 245 = .ok (.isub, 1) := by decide +kernel
theorem d_Mo_mends_246 : decode b_Mo_mends 246 = .ok (.istore 4, 2) := by decide +kernel
theorem d_Mo_mends_248 : decode b_Mo_mends 248 = .ok (.aload_n 0, 1) := by decide +kernel
theorem d_Mo_mends_249 : decode b_Mo_mends 249 = .ok (.getfield 81, 3) := by decide +kernel
theorem d_Mo_mends_252 : decode b_Mo_mends 252 = .ok (.iload 4, 2) := by decide +kernel
theorem d_Mo_mends_254 : decode b_Mo_mends 254 = .ok (.aload_n 0, 1) := by decide +kernel
theorem d_Mo_mends_255 : decode b_Mo_mends 255 = .ok (.getfield 81, 3) := by decide +kernel
theorem d_Mo_mends_258 : decode b_Mo_mends 258 = .ok (.iload 4, 2) := by decide +kernel
theorem d_Mo_mends_260 : decode b_Mo_mends 260 = .ok (.iaload, 1) := by decide +kernel
theorem d_Mo_mends_261 : decode b_Mo_mends 261 = .ok (.aload_n 0, 1) := by decide +kernel
theorem d_Mo_mends_262 : decode b_Mo_mends 262 = .ok (.aload_n 0, 1) := by decide +kernel
theorem d_Mo_mends_263 : decode b_Mo_mends 263 = .ok (.getfield 90, 3) := by decide +kernel
theorem d_Mo_mends_266 : decode b_Mo_mends 266 = .ok (.iload_n 3, 1) := by decide +kernel
theorem d_Mo_mends_267 : decode b_Mo_mends 267 = .ok (.iaload, 1) := by decide +kernel
theorem d_Mo_mends_268 : decode b_Mo_mends 268 = .ok (.aload_n 0, 1) := by decide +kernel
theorem d_Mo_mends_269 : decode b_Mo_mends 269 = .ok (.aload_n 0, 1) := by decide +kernel
theorem d_Mo_mends_270 : decode b_Mo_mends 270 = .ok (.aload_n 0, 1) := by decide +kernel
theorem d_Mo_mends_271 : decode b_Mo_mends 271 = .ok (.getfield 93, 3) := by decide +kernel
theorem d_Mo_mends_274 : decode b_Mo_mends 274 = .ok (.iload_n 3, 1) := by decide +kernel
theorem d_Mo_mends_275 : decode b_Mo_mends 275 = .ok (.iaload, 1) := by decide +kernel
theorem d_Mo_mends_276 : decode b_Mo_mends 276 = .ok (.sipush 128, 3) := by decide +kernel
theorem d_Mo_mends_279 : decode b_Mo_mends 279 = .ok (.aload_n 0, 1) := by decide +kernel
theorem d_Mo_mends_280 : decode b_Mo_mends 280 = .ok (.getfield 16, 3) := by decide +kernel
theorem d_Mo_mends_283 : decode b_Mo_mends 283 = .ok (.isub, 1) := by decide +kernel
theorem d_Mo_mends_284 : decode b_Mo_mends 284 = .ok (.imul, 1) := by decide +kernel
theorem d_Mo_mends_285 : decode b_Mo_mends 285 = .ok (.invokevirtual 178, 3) := by decide +kernel
theorem d_Mo_mends_288 : decode b_Mo_mends 288 = .ok (.invokevirtual 172, 3) := by decide +kernel
theorem d_Mo_mends_291 : decode b_Mo_mends 291 = .ok (.invokevirtual 175, 3) := by decide +kernel
theorem d_Mo_mends_294 : decode b_Mo_mends 294 = .ok (.ixor, 1) := by decide +kernel
theorem d_Mo_mends_295 : decode b_Mo_mends 295 = .ok (.iastore, 1) := by decide +kernel
theorem d_Mo_mends_296 : decode b_Mo_mends 296 = .ok (.iinc 3 1, 3) := by decide +kernel
theorem d_Mo_mends_299 : decode b_Mo_mends 299 = .ok (.goto (-71), 3) := by decide +kernel
theorem d_Mo_mends_302 : decode b_Mo_mends 302 = .ok (.aload_n 0, 1) := by decide +kernel
theorem d_Mo_mends_303 : decode b_Mo_mends 303 = .ok (.invokevirtual 181, 3) := by decide +kernel
theorem d_Mo_mends_306 : decode b_Mo_mends 306 = .ok (.ireturn, 1) := by decide +kernel
theorem ok_Mo_mends : OKv y_Mo_mends b_Mo_mends 7 (some .boolean) "DeepChannelModel" 1 := ⟨k_1162, k_1161, k_39, k_55, by decide +kernel, by decide +kernel, by decide +kernel⟩
abbrev w_Mo_mends (cI cJ : ClassId) (qM qM_system qM_solved qM_logarithms qM_powers qM_values qM_word qM_wrong : Nat) (M_thrown M_depth M_pattern M_craft M_begins M_firsts M_seconds M_forms M_elements M_mixer M_data M_waiting M_master M_counts M_line M_length M_sent M_state M_places M_least M_row M_rowSize M_differ M_blocks M_marks M_wrongs M_bytes M_rights M_tells M_lastMaster M_lastCounts : Value) (M_fill : Int32) (M_half : Int32) (M_system : Nat → Int32) (M_solved : Nat → Int32) (M_logarithms : Nat → Int32) (M_powers : Nat → Int32) (M_values : Nat → Int32) (M_word : Nat → Int32) (M_wrong : Nat → Int32) : va_W := [(qM, .inr (11, [M_thrown, M_depth, .int M_fill, .int M_half, M_pattern, M_craft, M_begins, M_firsts, M_seconds, .ref qM_powers, .ref qM_logarithms, M_forms, M_elements, M_mixer, M_data, M_waiting, M_master, M_counts, M_line, M_length, M_sent, M_state, M_places, M_least, M_row, M_rowSize, M_differ, M_blocks, M_marks, M_wrongs, M_bytes, M_rights, M_tells, M_lastMaster, M_lastCounts, .ref qM_word, .ref qM_values, .ref qM_system, .ref qM_solved, .ref qM_wrong])), (qM_system, .inl (cI, 1056, .inl M_system)), (qM_solved, .inl (cI, 32, .inl M_solved)), (qM_logarithms, .inl (cI, 256, .inl M_logarithms)), (qM_powers, .inl (cI, 255, .inl M_powers)), (qM_values, .inl (cI, 32, .inl M_values)), (qM_word, .inl (cI, 255, .inl M_word)), (qM_wrong, .inl (cI, 16, .inl M_wrong))]
def f_Mo_mends_302 (M_fill : Int32) (M_half : Int32) (M_logarithms : Nat → Int32) (M_powers : Nat → Int32) (M_system : Nat → Int32) (M_solved : Nat → Int32) (M_values : Nat → Int32) (M_word : Nat → Int32) (M_wrong : Nat → Int32) : Option (Int32 × (Nat → Int32) × (Nat → Int32) × (Nat → Int32) × (Nat → Int32) × (Nat → Int32)) :=
  bd (f_Mo_isCodeword M_fill M_half M_powers M_values M_logarithms M_word) fun u3 =>
  nm u3.1 fun r1 =>
  nm u3.2 fun g2 =>
  zb r1 <|
  some (r1, M_system, M_solved, g2, M_word, M_wrong)
def f_Mo_mends_228_b (M_fill : Int32) (M_half : Int32) (M_logarithms : Nat → Int32) (M_powers : Nat → Int32) (kh228 : Int32 → Int32 → (Nat → Int32) → (Nat → Int32) → (Nat → Int32) → (Nat → Int32) → (Nat → Int32) → Option (Int32 × (Nat → Int32) × (Nat → Int32) × (Nat → Int32) × (Nat → Int32) × (Nat → Int32))) (x1 : Int32) (x3 : Int32) (M_system : Nat → Int32) (M_solved : Nat → Int32) (M_values : Nat → Int32) (M_word : Nat → Int32) (M_wrong : Nat → Int32) : Option (Int32 × (Nat → Int32) × (Nat → Int32) × (Nat → Int32) × (Nat → Int32) × (Nat → Int32)) :=
  if x1 ≤ x3 then
    f_Mo_mends_302 M_fill M_half M_logarithms M_powers M_system M_solved M_values M_word M_wrong
  else
  bd (f_Mo_wordSize M_fill) fun u5 =>
  nm u5 fun r4 =>
  rdI M_wrong 16 x3 fun v6 =>
  nm ((r4 - (1 : Int32)) - v6) fun v7 =>
  rdI M_word 255 v7 fun v8 =>
  rdI M_solved 32 x3 fun v9 =>
  rdI M_wrong 16 x3 fun v10 =>
  bd (f_Mo_ofG M_powers (v10 * ((128 : Int32) - M_half))) fun u12 =>
  nm u12 fun r11 =>
  bd (f_Mo_inverse M_logarithms M_powers r11) fun u14 =>
  nm u14 fun r13 =>
  bd (f_Mo_product M_logarithms M_powers v9 r13) fun u16 =>
  nm u16 fun r15 =>
  wrI M_word 255 v7 (v8 ^^^ r15) fun g17 =>
  nm (x3 + (1 : Int32)) fun v18 =>
  kh228 x1 v18 M_system M_solved M_values g17 M_wrong
def f_Mo_mends_228 (M_fill : Int32) (M_half : Int32) (M_logarithms : Nat → Int32) (M_powers : Nat → Int32) : Nat → Int32 → Int32 → (Nat → Int32) → (Nat → Int32) → (Nat → Int32) → (Nat → Int32) → (Nat → Int32) → Option (Int32 × (Nat → Int32) × (Nat → Int32) × (Nat → Int32) × (Nat → Int32) × (Nat → Int32))
  | 0 => fun _ _ _ _ _ _ _ => none
  | n + 1 => fun x1 x3 M_system M_solved M_values M_word M_wrong => f_Mo_mends_228_b M_fill M_half M_logarithms M_powers (f_Mo_mends_228 M_fill M_half M_logarithms M_powers n) x1 x3 M_system M_solved M_values M_word M_wrong
def f_Mo_mends_216 (M_fill : Int32) (M_half : Int32) (M_logarithms : Nat → Int32) (M_powers : Nat → Int32) (x1 : Int32) (M_system : Nat → Int32) (M_solved : Nat → Int32) (M_values : Nat → Int32) (M_word : Nat → Int32) (M_wrong : Nat → Int32) : Option (Int32 × (Nat → Int32) × (Nat → Int32) × (Nat → Int32) × (Nat → Int32) × (Nat → Int32)) :=
  bd (f_Mo_solves M_system M_solved M_logarithms M_powers x1) fun u22 =>
  nm u22.1 fun r19 =>
  nm u22.2.1 fun g20 =>
  nm u22.2.2 fun g21 =>
  if r19 = 0 then
    zb (0 : Int32) <|
    some ((0 : Int32), g20, g21, M_values, M_word, M_wrong)
  else
  f_Mo_mends_228 M_fill M_half M_logarithms M_powers 10000 x1 (0 : Int32) g20 g21 M_values M_word M_wrong
def f_Mo_mends_193 (kh148 : Int32 → Int32 → (Nat → Int32) → (Nat → Int32) → (Nat → Int32) → (Nat → Int32) → (Nat → Int32) → Option (Int32 × (Nat → Int32) × (Nat → Int32) × (Nat → Int32) × (Nat → Int32) × (Nat → Int32))) (x1 : Int32) (x3 : Int32) (M_system : Nat → Int32) (M_solved : Nat → Int32) (M_values : Nat → Int32) (M_word : Nat → Int32) (M_wrong : Nat → Int32) : Option (Int32 × (Nat → Int32) × (Nat → Int32) × (Nat → Int32) × (Nat → Int32) × (Nat → Int32)) :=
  rdI M_values 32 x3 fun v23 =>
  wrI M_system 1056 (((33 : Int32) * x3) + x1) v23 fun g24 =>
  nm (x3 + (1 : Int32)) fun v25 =>
  kh148 x1 v25 g24 M_solved M_values M_word M_wrong
def f_Mo_mends_156_b (M_powers : Nat → Int32) (kh148 : Int32 → Int32 → (Nat → Int32) → (Nat → Int32) → (Nat → Int32) → (Nat → Int32) → (Nat → Int32) → Option (Int32 × (Nat → Int32) × (Nat → Int32) × (Nat → Int32) × (Nat → Int32) × (Nat → Int32))) (kh156 : Int32 → Int32 → Int32 → (Nat → Int32) → (Nat → Int32) → (Nat → Int32) → (Nat → Int32) → (Nat → Int32) → Option (Int32 × (Nat → Int32) × (Nat → Int32) × (Nat → Int32) × (Nat → Int32) × (Nat → Int32))) (x1 : Int32) (x3 : Int32) (x4 : Int32) (M_system : Nat → Int32) (M_solved : Nat → Int32) (M_values : Nat → Int32) (M_word : Nat → Int32) (M_wrong : Nat → Int32) : Option (Int32 × (Nat → Int32) × (Nat → Int32) × (Nat → Int32) × (Nat → Int32) × (Nat → Int32)) :=
  if x1 ≤ x4 then
    f_Mo_mends_193 kh148 x1 x3 M_system M_solved M_values M_word M_wrong
  else
  rdI M_wrong 16 x4 fun v26 =>
  bd (f_Mo_ofG M_powers (v26 * x3)) fun u28 =>
  nm u28 fun r27 =>
  wrI M_system 1056 (((33 : Int32) * x3) + x4) r27 fun g29 =>
  nm (x4 + (1 : Int32)) fun v30 =>
  kh156 x1 x3 v30 g29 M_solved M_values M_word M_wrong
def f_Mo_mends_156 (M_powers : Nat → Int32) (kh148 : Int32 → Int32 → (Nat → Int32) → (Nat → Int32) → (Nat → Int32) → (Nat → Int32) → (Nat → Int32) → Option (Int32 × (Nat → Int32) × (Nat → Int32) × (Nat → Int32) × (Nat → Int32) × (Nat → Int32))) : Nat → Int32 → Int32 → Int32 → (Nat → Int32) → (Nat → Int32) → (Nat → Int32) → (Nat → Int32) → (Nat → Int32) → Option (Int32 × (Nat → Int32) × (Nat → Int32) × (Nat → Int32) × (Nat → Int32) × (Nat → Int32))
  | 0 => fun _ _ _ _ _ _ _ _ => none
  | n + 1 => fun x1 x3 x4 M_system M_solved M_values M_word M_wrong => f_Mo_mends_156_b M_powers kh148 (f_Mo_mends_156 M_powers kh148 n) x1 x3 x4 M_system M_solved M_values M_word M_wrong
def f_Mo_mends_148_b (M_fill : Int32) (M_half : Int32) (M_logarithms : Nat → Int32) (M_powers : Nat → Int32) (kh148 : Int32 → Int32 → (Nat → Int32) → (Nat → Int32) → (Nat → Int32) → (Nat → Int32) → (Nat → Int32) → Option (Int32 × (Nat → Int32) × (Nat → Int32) × (Nat → Int32) × (Nat → Int32) × (Nat → Int32))) (x1 : Int32) (x3 : Int32) (M_system : Nat → Int32) (M_solved : Nat → Int32) (M_values : Nat → Int32) (M_word : Nat → Int32) (M_wrong : Nat → Int32) : Option (Int32 × (Nat → Int32) × (Nat → Int32) × (Nat → Int32) × (Nat → Int32) × (Nat → Int32)) :=
  if x1 ≤ x3 then
    f_Mo_mends_216 M_fill M_half M_logarithms M_powers x1 M_system M_solved M_values M_word M_wrong
  else
  f_Mo_mends_156 M_powers kh148 10000 x1 x3 (0 : Int32) M_system M_solved M_values M_word M_wrong
def f_Mo_mends_148 (M_fill : Int32) (M_half : Int32) (M_logarithms : Nat → Int32) (M_powers : Nat → Int32) : Nat → Int32 → Int32 → (Nat → Int32) → (Nat → Int32) → (Nat → Int32) → (Nat → Int32) → (Nat → Int32) → Option (Int32 × (Nat → Int32) × (Nat → Int32) × (Nat → Int32) × (Nat → Int32) × (Nat → Int32))
  | 0 => fun _ _ _ _ _ _ _ => none
  | n + 1 => fun x1 x3 M_system M_solved M_values M_word M_wrong => f_Mo_mends_148_b M_fill M_half M_logarithms M_powers (f_Mo_mends_148 M_fill M_half M_logarithms M_powers n) x1 x3 M_system M_solved M_values M_word M_wrong
def f_Mo_mends_139 (M_fill : Int32) (M_half : Int32) (M_logarithms : Nat → Int32) (M_powers : Nat → Int32) (x1 : Int32) (x2 : Int32) (M_system : Nat → Int32) (M_solved : Nat → Int32) (M_values : Nat → Int32) (M_word : Nat → Int32) (M_wrong : Nat → Int32) : Option (Int32 × (Nat → Int32) × (Nat → Int32) × (Nat → Int32) × (Nat → Int32) × (Nat → Int32)) :=
  if x1 ≤ x2 then
    f_Mo_mends_148 M_fill M_half M_logarithms M_powers 10000 x1 (0 : Int32) M_system M_solved M_values M_word M_wrong
  else
  zb (0 : Int32) <|
  some ((0 : Int32), M_system, M_solved, M_values, M_word, M_wrong)
def f_Mo_mends_133 (kh59 : Int32 → Int32 → Int32 → (Nat → Int32) → (Nat → Int32) → (Nat → Int32) → (Nat → Int32) → (Nat → Int32) → Option (Int32 × (Nat → Int32) × (Nat → Int32) × (Nat → Int32) × (Nat → Int32) × (Nat → Int32))) (x1 : Int32) (x2 : Int32) (x3 : Int32) (M_system : Nat → Int32) (M_solved : Nat → Int32) (M_values : Nat → Int32) (M_word : Nat → Int32) (M_wrong : Nat → Int32) : Option (Int32 × (Nat → Int32) × (Nat → Int32) × (Nat → Int32) × (Nat → Int32) × (Nat → Int32)) :=
  nm (x3 + (1 : Int32)) fun v31 =>
  kh59 x1 x2 v31 M_system M_solved M_values M_word M_wrong
def f_Mo_mends_111 (kh59 : Int32 → Int32 → Int32 → (Nat → Int32) → (Nat → Int32) → (Nat → Int32) → (Nat → Int32) → (Nat → Int32) → Option (Int32 × (Nat → Int32) × (Nat → Int32) × (Nat → Int32) × (Nat → Int32) × (Nat → Int32))) (x1 : Int32) (x2 : Int32) (x3 : Int32) (x5 : Int32) (M_system : Nat → Int32) (M_solved : Nat → Int32) (M_values : Nat → Int32) (M_word : Nat → Int32) (M_wrong : Nat → Int32) : Option (Int32 × (Nat → Int32) × (Nat → Int32) × (Nat → Int32) × (Nat → Int32) × (Nat → Int32)) :=
  if x5 = 0 then
    if x2 = x1 then
      zb (0 : Int32) <|
      some ((0 : Int32), M_system, M_solved, M_values, M_word, M_wrong)
    else
    wrI M_wrong 16 x2 x3 fun g32 =>
    nm (x2 + (1 : Int32)) fun v33 =>
    f_Mo_mends_133 kh59 x1 v33 x3 M_system M_solved M_values M_word g32
  else
  f_Mo_mends_133 kh59 x1 x2 x3 M_system M_solved M_values M_word M_wrong
def f_Mo_mends_82_b (M_logarithms : Nat → Int32) (M_powers : Nat → Int32) (kh59 : Int32 → Int32 → Int32 → (Nat → Int32) → (Nat → Int32) → (Nat → Int32) → (Nat → Int32) → (Nat → Int32) → Option (Int32 × (Nat → Int32) × (Nat → Int32) × (Nat → Int32) × (Nat → Int32) × (Nat → Int32))) (kh82 : Int32 → Int32 → Int32 → Int32 → Int32 → Int32 → (Nat → Int32) → (Nat → Int32) → (Nat → Int32) → (Nat → Int32) → (Nat → Int32) → Option (Int32 × (Nat → Int32) × (Nat → Int32) × (Nat → Int32) × (Nat → Int32) × (Nat → Int32))) (x1 : Int32) (x2 : Int32) (x3 : Int32) (x4 : Int32) (x5 : Int32) (x6 : Int32) (M_system : Nat → Int32) (M_solved : Nat → Int32) (M_values : Nat → Int32) (M_word : Nat → Int32) (M_wrong : Nat → Int32) : Option (Int32 × (Nat → Int32) × (Nat → Int32) × (Nat → Int32) × (Nat → Int32) × (Nat → Int32)) :=
  if x6 < 0 then
    f_Mo_mends_111 kh59 x1 x2 x3 x5 M_system M_solved M_values M_word M_wrong
  else
  bd (f_Mo_product M_logarithms M_powers x5 x4) fun u35 =>
  nm u35 fun r34 =>
  rdI M_solved 32 x6 fun v36 =>
  nm (r34 ^^^ v36) fun v37 =>
  nm (x6 + (-1 : Int32)) fun v38 =>
  kh82 x1 x2 x3 x4 v37 v38 M_system M_solved M_values M_word M_wrong
def f_Mo_mends_82 (M_logarithms : Nat → Int32) (M_powers : Nat → Int32) (kh59 : Int32 → Int32 → Int32 → (Nat → Int32) → (Nat → Int32) → (Nat → Int32) → (Nat → Int32) → (Nat → Int32) → Option (Int32 × (Nat → Int32) × (Nat → Int32) × (Nat → Int32) × (Nat → Int32) × (Nat → Int32))) : Nat → Int32 → Int32 → Int32 → Int32 → Int32 → Int32 → (Nat → Int32) → (Nat → Int32) → (Nat → Int32) → (Nat → Int32) → (Nat → Int32) → Option (Int32 × (Nat → Int32) × (Nat → Int32) × (Nat → Int32) × (Nat → Int32) × (Nat → Int32))
  | 0 => fun _ _ _ _ _ _ _ _ _ _ _ => none
  | n + 1 => fun x1 x2 x3 x4 x5 x6 M_system M_solved M_values M_word M_wrong => f_Mo_mends_82_b M_logarithms M_powers kh59 (f_Mo_mends_82 M_logarithms M_powers kh59 n) x1 x2 x3 x4 x5 x6 M_system M_solved M_values M_word M_wrong
def f_Mo_mends_59_b (M_fill : Int32) (M_half : Int32) (M_logarithms : Nat → Int32) (M_powers : Nat → Int32) (kh59 : Int32 → Int32 → Int32 → (Nat → Int32) → (Nat → Int32) → (Nat → Int32) → (Nat → Int32) → (Nat → Int32) → Option (Int32 × (Nat → Int32) × (Nat → Int32) × (Nat → Int32) × (Nat → Int32) × (Nat → Int32))) (x1 : Int32) (x2 : Int32) (x3 : Int32) (M_system : Nat → Int32) (M_solved : Nat → Int32) (M_values : Nat → Int32) (M_word : Nat → Int32) (M_wrong : Nat → Int32) : Option (Int32 × (Nat → Int32) × (Nat → Int32) × (Nat → Int32) × (Nat → Int32) × (Nat → Int32)) :=
  bd (f_Mo_wordSize M_fill) fun u40 =>
  nm u40 fun r39 =>
  if r39 ≤ x3 then
    f_Mo_mends_139 M_fill M_half M_logarithms M_powers x1 x2 M_system M_solved M_values M_word M_wrong
  else
  bd (f_Mo_ofG M_powers x3) fun u42 =>
  nm u42 fun r41 =>
  nm (x1 - (1 : Int32)) fun v43 =>
  f_Mo_mends_82 M_logarithms M_powers kh59 10000 x1 x2 x3 r41 (1 : Int32) v43 M_system M_solved M_values M_word M_wrong
def f_Mo_mends_59 (M_fill : Int32) (M_half : Int32) (M_logarithms : Nat → Int32) (M_powers : Nat → Int32) : Nat → Int32 → Int32 → Int32 → (Nat → Int32) → (Nat → Int32) → (Nat → Int32) → (Nat → Int32) → (Nat → Int32) → Option (Int32 × (Nat → Int32) × (Nat → Int32) × (Nat → Int32) × (Nat → Int32) × (Nat → Int32))
  | 0 => fun _ _ _ _ _ _ _ _ => none
  | n + 1 => fun x1 x2 x3 M_system M_solved M_values M_word M_wrong => f_Mo_mends_59_b M_fill M_half M_logarithms M_powers (f_Mo_mends_59 M_fill M_half M_logarithms M_powers n) x1 x2 x3 M_system M_solved M_values M_word M_wrong
def f_Mo_mends_45 (M_fill : Int32) (M_half : Int32) (M_logarithms : Nat → Int32) (M_powers : Nat → Int32) (x1 : Int32) (M_system : Nat → Int32) (M_solved : Nat → Int32) (M_values : Nat → Int32) (M_word : Nat → Int32) (M_wrong : Nat → Int32) : Option (Int32 × (Nat → Int32) × (Nat → Int32) × (Nat → Int32) × (Nat → Int32) × (Nat → Int32)) :=
  bd (f_Mo_solves M_system M_solved M_logarithms M_powers x1) fun u47 =>
  nm u47.1 fun r44 =>
  nm u47.2.1 fun g45 =>
  nm u47.2.2 fun g46 =>
  if r44 = 0 then
    zb (0 : Int32) <|
    some ((0 : Int32), g45, g46, M_values, M_word, M_wrong)
  else
  f_Mo_mends_59 M_fill M_half M_logarithms M_powers 10000 x1 (0 : Int32) (0 : Int32) g45 g46 M_values M_word M_wrong
def f_Mo_mends_39 (kh2 : Int32 → Int32 → (Nat → Int32) → (Nat → Int32) → (Nat → Int32) → (Nat → Int32) → (Nat → Int32) → Option (Int32 × (Nat → Int32) × (Nat → Int32) × (Nat → Int32) × (Nat → Int32) × (Nat → Int32))) (x1 : Int32) (x2 : Int32) (M_system : Nat → Int32) (M_solved : Nat → Int32) (M_values : Nat → Int32) (M_word : Nat → Int32) (M_wrong : Nat → Int32) : Option (Int32 × (Nat → Int32) × (Nat → Int32) × (Nat → Int32) × (Nat → Int32) × (Nat → Int32)) :=
  nm (x2 + (1 : Int32)) fun v48 =>
  kh2 x1 v48 M_system M_solved M_values M_word M_wrong
def f_Mo_mends_9_b (kh2 : Int32 → Int32 → (Nat → Int32) → (Nat → Int32) → (Nat → Int32) → (Nat → Int32) → (Nat → Int32) → Option (Int32 × (Nat → Int32) × (Nat → Int32) × (Nat → Int32) × (Nat → Int32) × (Nat → Int32))) (kh9 : Int32 → Int32 → Int32 → (Nat → Int32) → (Nat → Int32) → (Nat → Int32) → (Nat → Int32) → (Nat → Int32) → Option (Int32 × (Nat → Int32) × (Nat → Int32) × (Nat → Int32) × (Nat → Int32) × (Nat → Int32))) (x1 : Int32) (x2 : Int32) (x3 : Int32) (M_system : Nat → Int32) (M_solved : Nat → Int32) (M_values : Nat → Int32) (M_word : Nat → Int32) (M_wrong : Nat → Int32) : Option (Int32 × (Nat → Int32) × (Nat → Int32) × (Nat → Int32) × (Nat → Int32) × (Nat → Int32)) :=
  if x1 < x3 then
    f_Mo_mends_39 kh2 x1 x2 M_system M_solved M_values M_word M_wrong
  else
  rdI M_values 32 (x2 + x3) fun v49 =>
  wrI M_system 1056 (((33 : Int32) * x2) + x3) v49 fun g50 =>
  nm (x3 + (1 : Int32)) fun v51 =>
  kh9 x1 x2 v51 g50 M_solved M_values M_word M_wrong
def f_Mo_mends_9 (kh2 : Int32 → Int32 → (Nat → Int32) → (Nat → Int32) → (Nat → Int32) → (Nat → Int32) → (Nat → Int32) → Option (Int32 × (Nat → Int32) × (Nat → Int32) × (Nat → Int32) × (Nat → Int32) × (Nat → Int32))) : Nat → Int32 → Int32 → Int32 → (Nat → Int32) → (Nat → Int32) → (Nat → Int32) → (Nat → Int32) → (Nat → Int32) → Option (Int32 × (Nat → Int32) × (Nat → Int32) × (Nat → Int32) × (Nat → Int32) × (Nat → Int32))
  | 0 => fun _ _ _ _ _ _ _ _ => none
  | n + 1 => fun x1 x2 x3 M_system M_solved M_values M_word M_wrong => f_Mo_mends_9_b kh2 (f_Mo_mends_9 kh2 n) x1 x2 x3 M_system M_solved M_values M_word M_wrong
def f_Mo_mends_2_b (M_fill : Int32) (M_half : Int32) (M_logarithms : Nat → Int32) (M_powers : Nat → Int32) (kh2 : Int32 → Int32 → (Nat → Int32) → (Nat → Int32) → (Nat → Int32) → (Nat → Int32) → (Nat → Int32) → Option (Int32 × (Nat → Int32) × (Nat → Int32) × (Nat → Int32) × (Nat → Int32) × (Nat → Int32))) (x1 : Int32) (x2 : Int32) (M_system : Nat → Int32) (M_solved : Nat → Int32) (M_values : Nat → Int32) (M_word : Nat → Int32) (M_wrong : Nat → Int32) : Option (Int32 × (Nat → Int32) × (Nat → Int32) × (Nat → Int32) × (Nat → Int32) × (Nat → Int32)) :=
  if x1 ≤ x2 then
    f_Mo_mends_45 M_fill M_half M_logarithms M_powers x1 M_system M_solved M_values M_word M_wrong
  else
  f_Mo_mends_9 kh2 10000 x1 x2 (0 : Int32) M_system M_solved M_values M_word M_wrong
def f_Mo_mends_2 (M_fill : Int32) (M_half : Int32) (M_logarithms : Nat → Int32) (M_powers : Nat → Int32) : Nat → Int32 → Int32 → (Nat → Int32) → (Nat → Int32) → (Nat → Int32) → (Nat → Int32) → (Nat → Int32) → Option (Int32 × (Nat → Int32) × (Nat → Int32) × (Nat → Int32) × (Nat → Int32) × (Nat → Int32))
  | 0 => fun _ _ _ _ _ _ _ => none
  | n + 1 => fun x1 x2 M_system M_solved M_values M_word M_wrong => f_Mo_mends_2_b M_fill M_half M_logarithms M_powers (f_Mo_mends_2 M_fill M_half M_logarithms M_powers n) x1 x2 M_system M_solved M_values M_word M_wrong
def f_Mo_mends (M_fill : Int32) (M_half : Int32) (M_system : Nat → Int32) (M_solved : Nat → Int32) (M_logarithms : Nat → Int32) (M_powers : Nat → Int32) (M_values : Nat → Int32) (M_word : Nat → Int32) (M_wrong : Nat → Int32) (x1 : Int32) : Option (Int32 × (Nat → Int32) × (Nat → Int32) × (Nat → Int32) × (Nat → Int32) × (Nat → Int32)) :=
  f_Mo_mends_2 M_fill M_half M_logarithms M_powers 10000 x1 (0 : Int32) M_system M_solved M_values M_word M_wrong
set_option maxHeartbeats 4000000 in
set_option maxRecDepth 100000 in
theorem c_Mo_mends (l : Launch) (D : va_G) (cI cJ : ClassId) (tt : Nat → Nat) (qM qM_system qM_solved qM_logarithms qM_powers qM_values qM_word qM_wrong : Nat) (M_thrown M_depth M_pattern M_craft M_begins M_firsts M_seconds M_forms M_elements M_mixer M_data M_waiting M_master M_counts M_line M_length M_sent M_state M_places M_least M_row M_rowSize M_differ M_blocks M_marks M_wrongs M_bytes M_rights M_tells M_lastMaster M_lastCounts : Value) (sz : Nat) (M_fill : Int32) (M_half : Int32) (M_system : Nat → Int32) (M_solved : Nat → Int32) (M_logarithms : Nat → Int32) (M_powers : Nat → Int32) (M_values : Nat → Int32) (M_word : Nat → Int32) (M_wrong : Nat → Int32) (x1 : Int32) (rr : Int32) (M_system' : Nat → Int32) (M_solved' : Nat → Int32) (M_values' : Nat → Int32) (M_word' : Nat → Int32) (M_wrong' : Nat → Int32) (hm : f_Mo_mends M_fill M_half M_system M_solved M_logarithms M_powers M_values M_word M_wrong x1 = some (rr, M_system', M_solved', M_values', M_word', M_wrong')) : CTi l y_Mo_mends b_Mo_mends 7 (some .boolean) (RM 2 49) D cI cJ tt [.ref qM, .int x1] (w_Mo_mends cI cJ qM qM_system qM_solved qM_logarithms qM_powers qM_values qM_word qM_wrong M_thrown M_depth M_pattern M_craft M_begins M_firsts M_seconds M_forms M_elements M_mixer M_data M_waiting M_master M_counts M_line M_length M_sent M_state M_places M_least M_row M_rowSize M_differ M_blocks M_marks M_wrongs M_bytes M_rights M_tells M_lastMaster M_lastCounts M_fill M_half M_system M_solved M_logarithms M_powers M_values M_word M_wrong) (w_Mo_mends cI cJ qM qM_system qM_solved qM_logarithms qM_powers qM_values qM_word qM_wrong M_thrown M_depth M_pattern M_craft M_begins M_firsts M_seconds M_forms M_elements M_mixer M_data M_waiting M_master M_counts M_line M_length M_sent M_state M_places M_least M_row M_rowSize M_differ M_blocks M_marks M_wrongs M_bytes M_rights M_tells M_lastMaster M_lastCounts M_fill M_half M_system' M_solved' M_logarithms M_powers M_values' M_word' M_wrong') sz rr := by
  refine Met.ofW (cc := b_Mo_mends) (maxL := 7) (ret := (some .boolean)) (by decide) rfl ?_
  intro p e s m args below meth c s₁ B hml hv
  obtain ⟨hargs, hsz, hP, hK, hD0, hE⟩ := hv
  have hx := B.exec
  have hb := B.bytes
  have hr := B.returns
  have hts : ∀ w ∈ TB, w.before args s = true := z_mV s (atoms_spec (ws := WD y_Mo_mends b_Mo_mends 7 (some .boolean)) B.pre)
  have hown : s.vm.findClass "DeepChannelModel" = some m.cls := findClass_of_methodNamed B.named
  have hlocks := B.notSynchronized
  subst hsz
  have hD := hD0.self (sz := s.heap.size)
  generalize hAe : va_A (w_Mo_mends cI cJ qM qM_system qM_solved qM_logarithms qM_powers qM_values qM_word qM_wrong M_thrown M_depth M_pattern M_craft M_begins M_firsts M_seconds M_forms M_elements M_mixer M_data M_waiting M_master M_counts M_line M_length M_sent M_state M_places M_least M_row M_rowSize M_differ M_blocks M_marks M_wrongs M_bytes M_rights M_tells M_lastMaster M_lastCounts M_fill M_half M_system M_solved M_logarithms M_powers M_values M_word M_wrong) s.heap.size = A at hD hE ⊢
  have hA : ∀ q : Nat, s.heap.size ≤ q → A q := fun q h => by rw [← hAe]; exact Or.inr h
  have hS : va_S A s.heap s.heap [] := va_S.rf
  refine z_entry (vs := [.ref qM, .int x1]) hargs (Nat.le_of_ble_eq_true rfl) (fun ls hl => ?_)
  have hl : lv_has ls 7 [(0, .ref qM), (1, .int x1)] := hl
  show W p l e (RM 2 49) s m args below meth c s.heap [] 0 0 _ _
  refine z_qi (fun Q0 hQ => ?_)
  have F : CallFix p m c b_Mo_mends 7 s args TB "DeepChannelModel" := ⟨hx, hb, hml, hown, hts⟩
  have T302 : ∀ (M_system : Nat → Int32) (M_solved : Nat → Int32) (M_values : Nat → Int32) (M_word : Nat → Int32) (M_wrong : Nat → Int32), f_Mo_mends_302 M_fill M_half M_logarithms M_powers M_system M_solved M_values M_word M_wrong = some (rr, M_system', M_solved', M_values', M_word', M_wrong') → ∀ (H : Heap) (locs : List Loc), va_P D classes (w_Mo_mends cI cJ qM qM_system qM_solved qM_logarithms qM_powers qM_values qM_word qM_wrong M_thrown M_depth M_pattern M_craft M_begins M_firsts M_seconds M_forms M_elements M_mixer M_data M_waiting M_master M_counts M_line M_length M_sent M_state M_places M_least M_row M_rowSize M_differ M_blocks M_marks M_wrongs M_bytes M_rights M_tells M_lastMaster M_lastCounts M_fill M_half M_system M_solved M_logarithms M_powers M_values M_word M_wrong) H → va_D A (w_Mo_mends cI cJ qM qM_system qM_solved qM_logarithms qM_powers qM_values qM_word qM_wrong M_thrown M_depth M_pattern M_craft M_begins M_firsts M_seconds M_forms M_elements M_mixer M_data M_waiting M_master M_counts M_line M_length M_sent M_state M_places M_least M_row M_rowSize M_differ M_blocks M_marks M_wrongs M_bytes M_rights M_tells M_lastMaster M_lastCounts M_fill M_half M_system M_solved M_logarithms M_powers M_values M_word M_wrong) → va_S A s.heap H locs → ∀ (ls : Array Slot), lv_has ls 7 [(0, .ref qM)] → W p l e (RM 2 49) s m args below meth c H locs 0 0 Q0 (F0 m 302 ls []) := by
    intro M_system M_solved M_values M_word M_wrong hm H locs hP hD hS ls hl
    unfold f_Mo_mends_302 at hm
    refine lv_aload_n hx hb d_Mo_mends_302 rfl (lv_at hl 0 rfl) ?_
    obtain ⟨⟨r1, g2⟩, hu, hm⟩ := bd_el hm
    replace hm := nm_2 hm
    refine z_cVi (wc := w_Mo_isCodeword cI cJ qM qM_powers qM_values qM_logarithms qM_word M_thrown M_depth M_pattern M_craft M_begins M_firsts M_seconds M_forms M_elements M_mixer M_data M_waiting M_master M_counts M_line M_length M_sent M_state M_places M_least M_row M_rowSize M_differ M_blocks M_marks M_wrongs M_bytes M_rights M_tells M_lastMaster M_lastCounts (.ref qM_system) (.ref qM_solved) (.ref qM_wrong) M_fill M_half M_powers M_values M_logarithms M_word) (wc' := w_Mo_isCodeword cI cJ qM qM_powers qM_values qM_logarithms qM_word M_thrown M_depth M_pattern M_craft M_begins M_firsts M_seconds M_forms M_elements M_mixer M_data M_waiting M_master M_counts M_line M_length M_sent M_state M_places M_least M_row M_rowSize M_differ M_blocks M_marks M_wrongs M_bytes M_rights M_tells M_lastMaster M_lastCounts (.ref qM_system) (.ref qM_solved) (.ref qM_wrong) M_fill M_half M_powers g2 M_logarithms M_word) (wr := [(qM_system, .inl (cI, 1056, .inl M_system)), (qM_solved, .inl (cI, 32, .inl M_solved)), (qM_wrong, .inl (cI, 16, .inl M_wrong))]) (As := []) (rest := []) (c_Mo_isCodeword l D cI cJ tt qM qM_powers qM_values qM_logarithms qM_word M_thrown M_depth M_pattern M_craft M_begins M_firsts M_seconds M_forms M_elements M_mixer M_data M_waiting M_master M_counts M_line M_length M_sent M_state M_places M_least M_row M_rowSize M_differ M_blocks M_marks M_wrongs M_bytes M_rights M_tells M_lastMaster M_lastCounts (.ref qM_system) (.ref qM_solved) (.ref qM_wrong) _ M_fill M_half M_powers M_values M_logarithms M_word r1 g2 hu) F ok_Mo_isCodeword rfl k_1082 hK hE hP hD hS hA [0, 4, 5, 3, 6] [1, 2, 7] rfl rfl (by decide) (by decide) (by decide) 0 rfl rfl rfl ⟨rfl, rfl, Nat.le_of_ble_eq_true rfl, Nat.le_of_ble_eq_true rfl⟩ ⟨Nat.zero_le _, Nat.zero_le _⟩ rfl hl.1 rfl (Nat.le_of_ble_eq_true rfl) d_Mo_mends_303 (fun H locs hP hD hS => ?_)
    have hP : va_P D classes (w_Mo_mends cI cJ qM qM_system qM_solved qM_logarithms qM_powers qM_values qM_word qM_wrong M_thrown M_depth M_pattern M_craft M_begins M_firsts M_seconds M_forms M_elements M_mixer M_data M_waiting M_master M_counts M_line M_length M_sent M_state M_places M_least M_row M_rowSize M_differ M_blocks M_marks M_wrongs M_bytes M_rights M_tells M_lastMaster M_lastCounts M_fill M_half M_system M_solved M_logarithms M_powers g2 M_word M_wrong) H := hP.sub [3, 0, 1, 6, 4, 5, 7, 2] rfl
    have hD : va_D A (w_Mo_mends cI cJ qM qM_system qM_solved qM_logarithms qM_powers qM_values qM_word qM_wrong M_thrown M_depth M_pattern M_craft M_begins M_firsts M_seconds M_forms M_elements M_mixer M_data M_waiting M_master M_counts M_line M_length M_sent M_state M_places M_least M_row M_rowSize M_differ M_blocks M_marks M_wrongs M_bytes M_rights M_tells M_lastMaster M_lastCounts M_fill M_half M_system M_solved M_logarithms M_powers g2 M_word M_wrong) := hD.sub [3, 0, 1, 6, 4, 5, 7, 2] (by decide) rfl
    obtain ⟨hz, hm⟩ := zb_el hm
    cases hm
    exact z_qo hQ (z_iretz hz hr hx hb hlocks hK hP hD hS d_Mo_mends_306)
  have T228 : ∀ (n228 : Nat) (x1 : Int32) (x3 : Int32) (M_system : Nat → Int32) (M_solved : Nat → Int32) (M_values : Nat → Int32) (M_word : Nat → Int32) (M_wrong : Nat → Int32), f_Mo_mends_228 M_fill M_half M_logarithms M_powers n228 x1 x3 M_system M_solved M_values M_word M_wrong = some (rr, M_system', M_solved', M_values', M_word', M_wrong') → ∀ (H : Heap) (locs : List Loc), va_P D classes (w_Mo_mends cI cJ qM qM_system qM_solved qM_logarithms qM_powers qM_values qM_word qM_wrong M_thrown M_depth M_pattern M_craft M_begins M_firsts M_seconds M_forms M_elements M_mixer M_data M_waiting M_master M_counts M_line M_length M_sent M_state M_places M_least M_row M_rowSize M_differ M_blocks M_marks M_wrongs M_bytes M_rights M_tells M_lastMaster M_lastCounts M_fill M_half M_system M_solved M_logarithms M_powers M_values M_word M_wrong) H → va_D A (w_Mo_mends cI cJ qM qM_system qM_solved qM_logarithms qM_powers qM_values qM_word qM_wrong M_thrown M_depth M_pattern M_craft M_begins M_firsts M_seconds M_forms M_elements M_mixer M_data M_waiting M_master M_counts M_line M_length M_sent M_state M_places M_least M_row M_rowSize M_differ M_blocks M_marks M_wrongs M_bytes M_rights M_tells M_lastMaster M_lastCounts M_fill M_half M_system M_solved M_logarithms M_powers M_values M_word M_wrong) → va_S A s.heap H locs → ∀ (ls : Array Slot), lv_has ls 7 [(0, .ref qM), (1, .int x1), (3, .int x3)] → W p l e (RM 2 49) s m args below meth c H locs 0 0 Q0 (F0 m 228 ls []) := by
    intro n228
    induction n228 with
    | zero => intro x1 x3 M_system M_solved M_values M_word M_wrong hm; cases hm
    | succ n228 ih228 =>
      intro x1 x3 M_system M_solved M_values M_word M_wrong hm H locs hP hD hS ls hl
      replace hm : f_Mo_mends_228_b M_fill M_half M_logarithms M_powers (f_Mo_mends_228 M_fill M_half M_logarithms M_powers n228) x1 x3 M_system M_solved M_values M_word M_wrong = some (rr, M_system', M_solved', M_values', M_word', M_wrong') := hm
      unfold f_Mo_mends_228_b at hm
      refine lv_iload_n hx hb d_Mo_mends_228 rfl (lv_at hl 2 rfl) ?_
      refine lv_iload_n hx hb d_Mo_mends_229 rfl (lv_at hl 1 rfl) ?_
      refine z_if hm (lv_icmp_ge (tgt := 302) hx hb d_Mo_mends_230 (by decide)) (fun hm => ?_) (fun hm => ?_)
      · exact T302 M_system M_solved M_values M_word M_wrong hm _ _ hP hD hS _ (lv_sub hl [0] rfl)
      · refine lv_aload_n hx hb d_Mo_mends_233 rfl (lv_at hl 0 rfl) ?_
        obtain ⟨r4, hu, hm⟩ := bd_el hm
        replace hm := nm_1 hm
        refine z_cVi (wc := w_Mo_wordSize cI cJ qM M_thrown M_depth (.int M_half) M_pattern M_craft M_begins M_firsts M_seconds (.ref qM_powers) (.ref qM_logarithms) M_forms M_elements M_mixer M_data M_waiting M_master M_counts M_line M_length M_sent M_state M_places M_least M_row M_rowSize M_differ M_blocks M_marks M_wrongs M_bytes M_rights M_tells M_lastMaster M_lastCounts (.ref qM_word) (.ref qM_values) (.ref qM_system) (.ref qM_solved) (.ref qM_wrong) M_fill) (wc' := w_Mo_wordSize cI cJ qM M_thrown M_depth (.int M_half) M_pattern M_craft M_begins M_firsts M_seconds (.ref qM_powers) (.ref qM_logarithms) M_forms M_elements M_mixer M_data M_waiting M_master M_counts M_line M_length M_sent M_state M_places M_least M_row M_rowSize M_differ M_blocks M_marks M_wrongs M_bytes M_rights M_tells M_lastMaster M_lastCounts (.ref qM_word) (.ref qM_values) (.ref qM_system) (.ref qM_solved) (.ref qM_wrong) M_fill) (wr := [(qM_system, .inl (cI, 1056, .inl M_system)), (qM_solved, .inl (cI, 32, .inl M_solved)), (qM_logarithms, .inl (cI, 256, .inl M_logarithms)), (qM_powers, .inl (cI, 255, .inl M_powers)), (qM_values, .inl (cI, 32, .inl M_values)), (qM_word, .inl (cI, 255, .inl M_word)), (qM_wrong, .inl (cI, 16, .inl M_wrong))]) (As := []) (rest := []) (c_Mo_wordSize l D cI cJ tt qM M_thrown M_depth (.int M_half) M_pattern M_craft M_begins M_firsts M_seconds (.ref qM_powers) (.ref qM_logarithms) M_forms M_elements M_mixer M_data M_waiting M_master M_counts M_line M_length M_sent M_state M_places M_least M_row M_rowSize M_differ M_blocks M_marks M_wrongs M_bytes M_rights M_tells M_lastMaster M_lastCounts (.ref qM_word) (.ref qM_values) (.ref qM_system) (.ref qM_solved) (.ref qM_wrong) _ M_fill r4 hu) F ok_Mo_wordSize rfl k_1030 hK hE hP hD hS hA [0] [1, 2, 3, 4, 5, 6, 7] rfl rfl (by decide) (by decide) (by decide) 0 rfl rfl rfl ⟨rfl, rfl, Nat.le_of_ble_eq_true rfl, Nat.le_of_ble_eq_true rfl⟩ ⟨Nat.zero_le _, Nat.zero_le _⟩ rfl hl.1 rfl (Nat.le_of_ble_eq_true rfl) d_Mo_mends_234 (fun H locs hP hD hS => ?_)
        have hP : va_P D classes (w_Mo_mends cI cJ qM qM_system qM_solved qM_logarithms qM_powers qM_values qM_word qM_wrong M_thrown M_depth M_pattern M_craft M_begins M_firsts M_seconds M_forms M_elements M_mixer M_data M_waiting M_master M_counts M_line M_length M_sent M_state M_places M_least M_row M_rowSize M_differ M_blocks M_marks M_wrongs M_bytes M_rights M_tells M_lastMaster M_lastCounts M_fill M_half M_system M_solved M_logarithms M_powers M_values M_word M_wrong) H := hP.sub [7, 0, 1, 2, 3, 4, 5, 6] rfl
        have hD : va_D A (w_Mo_mends cI cJ qM qM_system qM_solved qM_logarithms qM_powers qM_values qM_word qM_wrong M_thrown M_depth M_pattern M_craft M_begins M_firsts M_seconds M_forms M_elements M_mixer M_data M_waiting M_master M_counts M_line M_length M_sent M_state M_places M_least M_row M_rowSize M_differ M_blocks M_marks M_wrongs M_bytes M_rights M_tells M_lastMaster M_lastCounts M_fill M_half M_system M_solved M_logarithms M_powers M_values M_word M_wrong) := hD.sub [7, 0, 1, 2, 3, 4, 5, 6] (by decide) rfl
        refine lv_iconst (v := (1 : Int32)) hx hb d_Mo_mends_237 (by decide) ?_
        refine lv_isub hx hb d_Mo_mends_238 ?_
        refine lv_aload_n hx hb d_Mo_mends_239 rfl (lv_at hl 0 rfl) ?_
        refine va_get (D := D) (ci := 11) (v := .ref qM_wrong) (C := "DeepChannelModel") (T := fT_Mo) (N := 40) hx hb hts u_Mo hown hK hP 0 rfl rfl 39 (by decide) (hts _ k_925) (fun _ h9 => h9) rfl d_Mo_mends_240 ?_
        refine lv_iload_n hx hb d_Mo_mends_243 rfl (lv_at hl 2 rfl) ?_
        refine z_iald hm hx hb hK hP 7 rfl d_Mo_mends_244 (fun v6 hm => ?_)
        refine lv_isub hx hb d_Mo_mends_245 ?_
        refine z_nmi hm (fun v7 hm => ?_)
        refine lv_istore (lv' := [(4, .int v7), (0, .ref qM), (1, .int x1), (3, .int x3)]) hx hb d_Mo_mends_246 hl (by decide) rfl (fun ls hl => ?_)
        refine lv_aload_n hx hb d_Mo_mends_248 rfl (lv_at hl 1 rfl) ?_
        refine va_get (D := D) (ci := 11) (v := .ref qM_word) (C := "DeepChannelModel") (T := fT_Mo) (N := 40) hx hb hts u_Mo hown hK hP 0 rfl rfl 35 (by decide) (hts _ k_921) (fun _ h9 => h9) rfl d_Mo_mends_249 ?_
        refine lv_iload hx hb d_Mo_mends_252 (lv_at hl 0 rfl) ?_
        refine lv_aload_n hx hb d_Mo_mends_254 rfl (lv_at hl 1 rfl) ?_
        refine va_get (D := D) (ci := 11) (v := .ref qM_word) (C := "DeepChannelModel") (T := fT_Mo) (N := 40) hx hb hts u_Mo hown hK hP 0 rfl rfl 35 (by decide) (hts _ k_921) (fun _ h9 => h9) rfl d_Mo_mends_255 ?_
        refine lv_iload hx hb d_Mo_mends_258 (lv_at hl 0 rfl) ?_
        refine z_iald hm hx hb hK hP 6 rfl d_Mo_mends_260 (fun v8 hm => ?_)
        refine lv_aload_n hx hb d_Mo_mends_261 rfl (lv_at hl 1 rfl) ?_
        refine lv_aload_n hx hb d_Mo_mends_262 rfl (lv_at hl 1 rfl) ?_
        refine va_get (D := D) (ci := 11) (v := .ref qM_solved) (C := "DeepChannelModel") (T := fT_Mo) (N := 40) hx hb hts u_Mo hown hK hP 0 rfl rfl 38 (by decide) (hts _ k_924) (fun _ h9 => h9) rfl d_Mo_mends_263 ?_
        refine lv_iload_n hx hb d_Mo_mends_266 rfl (lv_at hl 3 rfl) ?_
        refine z_iald hm hx hb hK hP 2 rfl d_Mo_mends_267 (fun v9 hm => ?_)
        refine lv_aload_n hx hb d_Mo_mends_268 rfl (lv_at hl 1 rfl) ?_
        refine lv_aload_n hx hb d_Mo_mends_269 rfl (lv_at hl 1 rfl) ?_
        refine lv_aload_n hx hb d_Mo_mends_270 rfl (lv_at hl 1 rfl) ?_
        refine va_get (D := D) (ci := 11) (v := .ref qM_wrong) (C := "DeepChannelModel") (T := fT_Mo) (N := 40) hx hb hts u_Mo hown hK hP 0 rfl rfl 39 (by decide) (hts _ k_925) (fun _ h9 => h9) rfl d_Mo_mends_271 ?_
        refine lv_iload_n hx hb d_Mo_mends_274 rfl (lv_at hl 3 rfl) ?_
        refine z_iald hm hx hb hK hP 7 rfl d_Mo_mends_275 (fun v10 hm => ?_)
        refine lv_sipush (v := (128 : Int32)) hx hb d_Mo_mends_276 (by decide) ?_
        refine lv_aload_n hx hb d_Mo_mends_279 rfl (lv_at hl 1 rfl) ?_
        refine va_get (D := D) (ci := 11) (v := .int M_half) (C := "DeepChannelModel") (T := fT_Mo) (N := 40) hx hb hts u_Mo hown hK hP 0 rfl rfl 3 (by decide) (hts _ k_889) (fun _ h9 => h9) rfl d_Mo_mends_280 ?_
        refine lv_isub hx hb d_Mo_mends_283 ?_
        refine lv_imul hx hb d_Mo_mends_284 ?_
        obtain ⟨r11, hu, hm⟩ := bd_el hm
        replace hm := nm_1 hm
        refine z_cVi (wc := w_Mo_ofG cI cJ qM qM_powers M_thrown M_depth (.int M_fill) (.int M_half) M_pattern M_craft M_begins M_firsts M_seconds (.ref qM_logarithms) M_forms M_elements M_mixer M_data M_waiting M_master M_counts M_line M_length M_sent M_state M_places M_least M_row M_rowSize M_differ M_blocks M_marks M_wrongs M_bytes M_rights M_tells M_lastMaster M_lastCounts (.ref qM_word) (.ref qM_values) (.ref qM_system) (.ref qM_solved) (.ref qM_wrong) M_powers) (wc' := w_Mo_ofG cI cJ qM qM_powers M_thrown M_depth (.int M_fill) (.int M_half) M_pattern M_craft M_begins M_firsts M_seconds (.ref qM_logarithms) M_forms M_elements M_mixer M_data M_waiting M_master M_counts M_line M_length M_sent M_state M_places M_least M_row M_rowSize M_differ M_blocks M_marks M_wrongs M_bytes M_rights M_tells M_lastMaster M_lastCounts (.ref qM_word) (.ref qM_values) (.ref qM_system) (.ref qM_solved) (.ref qM_wrong) M_powers) (wr := [(qM_system, .inl (cI, 1056, .inl M_system)), (qM_solved, .inl (cI, 32, .inl M_solved)), (qM_logarithms, .inl (cI, 256, .inl M_logarithms)), (qM_values, .inl (cI, 32, .inl M_values)), (qM_word, .inl (cI, 255, .inl M_word)), (qM_wrong, .inl (cI, 16, .inl M_wrong))]) (As := [.int (v10 * ((128 : Int32) - M_half))]) (rest := [.ref qM, .int v9, .ref qM, .int v8, .int v7, .ref qM_word]) (c_Mo_ofG l D cI cJ tt qM qM_powers M_thrown M_depth (.int M_fill) (.int M_half) M_pattern M_craft M_begins M_firsts M_seconds (.ref qM_logarithms) M_forms M_elements M_mixer M_data M_waiting M_master M_counts M_line M_length M_sent M_state M_places M_least M_row M_rowSize M_differ M_blocks M_marks M_wrongs M_bytes M_rights M_tells M_lastMaster M_lastCounts (.ref qM_word) (.ref qM_values) (.ref qM_system) (.ref qM_solved) (.ref qM_wrong) _ M_powers (v10 * ((128 : Int32) - M_half)) r11 hu) F ok_Mo_ofG rfl k_1086 hK hE hP hD hS hA [0, 4] [1, 2, 3, 5, 6, 7] rfl rfl (by decide) (by decide) (by decide) 0 rfl rfl rfl ⟨rfl, rfl, Nat.le_of_ble_eq_true rfl, Nat.le_of_ble_eq_true rfl⟩ ⟨Nat.zero_le _, Nat.zero_le _⟩ rfl hl.1 rfl (Nat.le_of_ble_eq_true rfl) d_Mo_mends_285 (fun H locs hP hD hS => ?_)
        have hP : va_P D classes (w_Mo_mends cI cJ qM qM_system qM_solved qM_logarithms qM_powers qM_values qM_word qM_wrong M_thrown M_depth M_pattern M_craft M_begins M_firsts M_seconds M_forms M_elements M_mixer M_data M_waiting M_master M_counts M_line M_length M_sent M_state M_places M_least M_row M_rowSize M_differ M_blocks M_marks M_wrongs M_bytes M_rights M_tells M_lastMaster M_lastCounts M_fill M_half M_system M_solved M_logarithms M_powers M_values M_word M_wrong) H := hP.sub [6, 0, 1, 2, 7, 3, 4, 5] rfl
        have hD : va_D A (w_Mo_mends cI cJ qM qM_system qM_solved qM_logarithms qM_powers qM_values qM_word qM_wrong M_thrown M_depth M_pattern M_craft M_begins M_firsts M_seconds M_forms M_elements M_mixer M_data M_waiting M_master M_counts M_line M_length M_sent M_state M_places M_least M_row M_rowSize M_differ M_blocks M_marks M_wrongs M_bytes M_rights M_tells M_lastMaster M_lastCounts M_fill M_half M_system M_solved M_logarithms M_powers M_values M_word M_wrong) := hD.sub [6, 0, 1, 2, 7, 3, 4, 5] (by decide) rfl
        obtain ⟨r13, hu, hm⟩ := bd_el hm
        replace hm := nm_1 hm
        refine z_cVi (wc := w_Mo_inverse cI cJ qM qM_logarithms qM_powers M_thrown M_depth (.int M_fill) (.int M_half) M_pattern M_craft M_begins M_firsts M_seconds M_forms M_elements M_mixer M_data M_waiting M_master M_counts M_line M_length M_sent M_state M_places M_least M_row M_rowSize M_differ M_blocks M_marks M_wrongs M_bytes M_rights M_tells M_lastMaster M_lastCounts (.ref qM_word) (.ref qM_values) (.ref qM_system) (.ref qM_solved) (.ref qM_wrong) M_logarithms M_powers) (wc' := w_Mo_inverse cI cJ qM qM_logarithms qM_powers M_thrown M_depth (.int M_fill) (.int M_half) M_pattern M_craft M_begins M_firsts M_seconds M_forms M_elements M_mixer M_data M_waiting M_master M_counts M_line M_length M_sent M_state M_places M_least M_row M_rowSize M_differ M_blocks M_marks M_wrongs M_bytes M_rights M_tells M_lastMaster M_lastCounts (.ref qM_word) (.ref qM_values) (.ref qM_system) (.ref qM_solved) (.ref qM_wrong) M_logarithms M_powers) (wr := [(qM_system, .inl (cI, 1056, .inl M_system)), (qM_solved, .inl (cI, 32, .inl M_solved)), (qM_values, .inl (cI, 32, .inl M_values)), (qM_word, .inl (cI, 255, .inl M_word)), (qM_wrong, .inl (cI, 16, .inl M_wrong))]) (As := [.int r11]) (rest := [.int v9, .ref qM, .int v8, .int v7, .ref qM_word]) (c_Mo_inverse l D cI cJ tt qM qM_logarithms qM_powers M_thrown M_depth (.int M_fill) (.int M_half) M_pattern M_craft M_begins M_firsts M_seconds M_forms M_elements M_mixer M_data M_waiting M_master M_counts M_line M_length M_sent M_state M_places M_least M_row M_rowSize M_differ M_blocks M_marks M_wrongs M_bytes M_rights M_tells M_lastMaster M_lastCounts (.ref qM_word) (.ref qM_values) (.ref qM_system) (.ref qM_solved) (.ref qM_wrong) _ M_logarithms M_powers r11 r13 hu) F ok_Mo_inverse rfl k_1098 hK hE hP hD hS hA [0, 3, 4] [1, 2, 5, 6, 7] rfl rfl (by decide) (by decide) (by decide) 0 rfl rfl rfl ⟨rfl, rfl, Nat.le_of_ble_eq_true rfl, Nat.le_of_ble_eq_true rfl⟩ ⟨Nat.zero_le _, Nat.zero_le _⟩ rfl hl.1 rfl (Nat.le_of_ble_eq_true rfl) d_Mo_mends_288 (fun H locs hP hD hS => ?_)
        have hP : va_P D classes (w_Mo_mends cI cJ qM qM_system qM_solved qM_logarithms qM_powers qM_values qM_word qM_wrong M_thrown M_depth M_pattern M_craft M_begins M_firsts M_seconds M_forms M_elements M_mixer M_data M_waiting M_master M_counts M_line M_length M_sent M_state M_places M_least M_row M_rowSize M_differ M_blocks M_marks M_wrongs M_bytes M_rights M_tells M_lastMaster M_lastCounts M_fill M_half M_system M_solved M_logarithms M_powers M_values M_word M_wrong) H := hP.sub [5, 0, 1, 6, 7, 2, 3, 4] rfl
        have hD : va_D A (w_Mo_mends cI cJ qM qM_system qM_solved qM_logarithms qM_powers qM_values qM_word qM_wrong M_thrown M_depth M_pattern M_craft M_begins M_firsts M_seconds M_forms M_elements M_mixer M_data M_waiting M_master M_counts M_line M_length M_sent M_state M_places M_least M_row M_rowSize M_differ M_blocks M_marks M_wrongs M_bytes M_rights M_tells M_lastMaster M_lastCounts M_fill M_half M_system M_solved M_logarithms M_powers M_values M_word M_wrong) := hD.sub [5, 0, 1, 6, 7, 2, 3, 4] (by decide) rfl
        obtain ⟨r15, hu, hm⟩ := bd_el hm
        replace hm := nm_1 hm
        refine z_cVi (wc := w_Mo_product cI cJ qM qM_logarithms qM_powers M_thrown M_depth (.int M_fill) (.int M_half) M_pattern M_craft M_begins M_firsts M_seconds M_forms M_elements M_mixer M_data M_waiting M_master M_counts M_line M_length M_sent M_state M_places M_least M_row M_rowSize M_differ M_blocks M_marks M_wrongs M_bytes M_rights M_tells M_lastMaster M_lastCounts (.ref qM_word) (.ref qM_values) (.ref qM_system) (.ref qM_solved) (.ref qM_wrong) M_logarithms M_powers) (wc' := w_Mo_product cI cJ qM qM_logarithms qM_powers M_thrown M_depth (.int M_fill) (.int M_half) M_pattern M_craft M_begins M_firsts M_seconds M_forms M_elements M_mixer M_data M_waiting M_master M_counts M_line M_length M_sent M_state M_places M_least M_row M_rowSize M_differ M_blocks M_marks M_wrongs M_bytes M_rights M_tells M_lastMaster M_lastCounts (.ref qM_word) (.ref qM_values) (.ref qM_system) (.ref qM_solved) (.ref qM_wrong) M_logarithms M_powers) (wr := [(qM_system, .inl (cI, 1056, .inl M_system)), (qM_solved, .inl (cI, 32, .inl M_solved)), (qM_values, .inl (cI, 32, .inl M_values)), (qM_word, .inl (cI, 255, .inl M_word)), (qM_wrong, .inl (cI, 16, .inl M_wrong))]) (As := [.int v9, .int r13]) (rest := [.int v8, .int v7, .ref qM_word]) (c_Mo_product l D cI cJ tt qM qM_logarithms qM_powers M_thrown M_depth (.int M_fill) (.int M_half) M_pattern M_craft M_begins M_firsts M_seconds M_forms M_elements M_mixer M_data M_waiting M_master M_counts M_line M_length M_sent M_state M_places M_least M_row M_rowSize M_differ M_blocks M_marks M_wrongs M_bytes M_rights M_tells M_lastMaster M_lastCounts (.ref qM_word) (.ref qM_values) (.ref qM_system) (.ref qM_solved) (.ref qM_wrong) _ M_logarithms M_powers v9 r13 r15 hu) F ok_Mo_product rfl k_1090 hK hE hP hD hS hA [0, 3, 4] [1, 2, 5, 6, 7] rfl rfl (by decide) (by decide) (by decide) 0 rfl rfl rfl ⟨rfl, rfl, Nat.le_of_ble_eq_true rfl, Nat.le_of_ble_eq_true rfl⟩ ⟨Nat.zero_le _, Nat.zero_le _⟩ rfl hl.1 rfl (Nat.le_of_ble_eq_true rfl) d_Mo_mends_291 (fun H locs hP hD hS => ?_)
        have hP : va_P D classes (w_Mo_mends cI cJ qM qM_system qM_solved qM_logarithms qM_powers qM_values qM_word qM_wrong M_thrown M_depth M_pattern M_craft M_begins M_firsts M_seconds M_forms M_elements M_mixer M_data M_waiting M_master M_counts M_line M_length M_sent M_state M_places M_least M_row M_rowSize M_differ M_blocks M_marks M_wrongs M_bytes M_rights M_tells M_lastMaster M_lastCounts M_fill M_half M_system M_solved M_logarithms M_powers M_values M_word M_wrong) H := hP.sub [5, 0, 1, 6, 7, 2, 3, 4] rfl
        have hD : va_D A (w_Mo_mends cI cJ qM qM_system qM_solved qM_logarithms qM_powers qM_values qM_word qM_wrong M_thrown M_depth M_pattern M_craft M_begins M_firsts M_seconds M_forms M_elements M_mixer M_data M_waiting M_master M_counts M_line M_length M_sent M_state M_places M_least M_row M_rowSize M_differ M_blocks M_marks M_wrongs M_bytes M_rights M_tells M_lastMaster M_lastCounts M_fill M_half M_system M_solved M_logarithms M_powers M_values M_word M_wrong) := hD.sub [5, 0, 1, 6, 7, 2, 3, 4] (by decide) rfl
        refine lv_ixor hx hb d_Mo_mends_294 ?_
        refine z_iast hm hx hb hK hP hD hS 6 rfl d_Mo_mends_295 (fun g17 hm H locs hP hD hS => ?_)
        have hP : va_P D classes (w_Mo_mends cI cJ qM qM_system qM_solved qM_logarithms qM_powers qM_values qM_word qM_wrong M_thrown M_depth M_pattern M_craft M_begins M_firsts M_seconds M_forms M_elements M_mixer M_data M_waiting M_master M_counts M_line M_length M_sent M_state M_places M_least M_row M_rowSize M_differ M_blocks M_marks M_wrongs M_bytes M_rights M_tells M_lastMaster M_lastCounts M_fill M_half M_system M_solved M_logarithms M_powers M_values g17 M_wrong) H := hP
        have hD : va_D A (w_Mo_mends cI cJ qM qM_system qM_solved qM_logarithms qM_powers qM_values qM_word qM_wrong M_thrown M_depth M_pattern M_craft M_begins M_firsts M_seconds M_forms M_elements M_mixer M_data M_waiting M_master M_counts M_line M_length M_sent M_state M_places M_least M_row M_rowSize M_differ M_blocks M_marks M_wrongs M_bytes M_rights M_tells M_lastMaster M_lastCounts M_fill M_half M_system M_solved M_logarithms M_powers M_values g17 M_wrong) := hD
        obtain ⟨v18, ev, hm⟩ := nm_el hm
        refine lv_iinc (v := v18) (lv' := [(3, .int v18), (4, .int v7), (0, .ref qM), (1, .int x1)]) hx hb d_Mo_mends_296 hl (k := 3) rfl (by rw [ev]; rfl) (by decide) rfl (fun ls hl => ?_)
        refine lv_goto (tgt := 228) hx hb d_Mo_mends_299 (by decide) ?_
        exact ih228 x1 v18 M_system M_solved M_values g17 M_wrong hm _ _ hP hD hS _ (lv_sub hl [2, 3, 0] rfl)
  have T216 : ∀ (x1 : Int32) (M_system : Nat → Int32) (M_solved : Nat → Int32) (M_values : Nat → Int32) (M_word : Nat → Int32) (M_wrong : Nat → Int32), f_Mo_mends_216 M_fill M_half M_logarithms M_powers x1 M_system M_solved M_values M_word M_wrong = some (rr, M_system', M_solved', M_values', M_word', M_wrong') → ∀ (H : Heap) (locs : List Loc), va_P D classes (w_Mo_mends cI cJ qM qM_system qM_solved qM_logarithms qM_powers qM_values qM_word qM_wrong M_thrown M_depth M_pattern M_craft M_begins M_firsts M_seconds M_forms M_elements M_mixer M_data M_waiting M_master M_counts M_line M_length M_sent M_state M_places M_least M_row M_rowSize M_differ M_blocks M_marks M_wrongs M_bytes M_rights M_tells M_lastMaster M_lastCounts M_fill M_half M_system M_solved M_logarithms M_powers M_values M_word M_wrong) H → va_D A (w_Mo_mends cI cJ qM qM_system qM_solved qM_logarithms qM_powers qM_values qM_word qM_wrong M_thrown M_depth M_pattern M_craft M_begins M_firsts M_seconds M_forms M_elements M_mixer M_data M_waiting M_master M_counts M_line M_length M_sent M_state M_places M_least M_row M_rowSize M_differ M_blocks M_marks M_wrongs M_bytes M_rights M_tells M_lastMaster M_lastCounts M_fill M_half M_system M_solved M_logarithms M_powers M_values M_word M_wrong) → va_S A s.heap H locs → ∀ (ls : Array Slot), lv_has ls 7 [(0, .ref qM), (1, .int x1)] → W p l e (RM 2 49) s m args below meth c H locs 0 0 Q0 (F0 m 216 ls []) := by
    intro x1 M_system M_solved M_values M_word M_wrong hm H locs hP hD hS ls hl
    unfold f_Mo_mends_216 at hm
    refine lv_aload_n hx hb d_Mo_mends_216 rfl (lv_at hl 0 rfl) ?_
    refine lv_iload_n hx hb d_Mo_mends_217 rfl (lv_at hl 1 rfl) ?_
    obtain ⟨⟨r19, g20, g21⟩, hu, hm⟩ := bd_el hm
    replace hm := nm_3 hm
    refine z_cVi (wc := w_Mo_solves cI cJ qM qM_system qM_solved qM_logarithms qM_powers M_thrown M_depth (.int M_fill) (.int M_half) M_pattern M_craft M_begins M_firsts M_seconds M_forms M_elements M_mixer M_data M_waiting M_master M_counts M_line M_length M_sent M_state M_places M_least M_row M_rowSize M_differ M_blocks M_marks M_wrongs M_bytes M_rights M_tells M_lastMaster M_lastCounts (.ref qM_word) (.ref qM_values) (.ref qM_wrong) M_system M_solved M_logarithms M_powers) (wc' := w_Mo_solves cI cJ qM qM_system qM_solved qM_logarithms qM_powers M_thrown M_depth (.int M_fill) (.int M_half) M_pattern M_craft M_begins M_firsts M_seconds M_forms M_elements M_mixer M_data M_waiting M_master M_counts M_line M_length M_sent M_state M_places M_least M_row M_rowSize M_differ M_blocks M_marks M_wrongs M_bytes M_rights M_tells M_lastMaster M_lastCounts (.ref qM_word) (.ref qM_values) (.ref qM_wrong) g20 g21 M_logarithms M_powers) (wr := [(qM_values, .inl (cI, 32, .inl M_values)), (qM_word, .inl (cI, 255, .inl M_word)), (qM_wrong, .inl (cI, 16, .inl M_wrong))]) (As := [.int x1]) (rest := []) (c_Mo_solves l D cI cJ tt qM qM_system qM_solved qM_logarithms qM_powers M_thrown M_depth (.int M_fill) (.int M_half) M_pattern M_craft M_begins M_firsts M_seconds M_forms M_elements M_mixer M_data M_waiting M_master M_counts M_line M_length M_sent M_state M_places M_least M_row M_rowSize M_differ M_blocks M_marks M_wrongs M_bytes M_rights M_tells M_lastMaster M_lastCounts (.ref qM_word) (.ref qM_values) (.ref qM_wrong) _ M_system M_solved M_logarithms M_powers x1 r19 g20 g21 hu) F ok_Mo_solves rfl k_1094 hK hE hP hD hS hA [0, 1, 2, 3, 4] [5, 6, 7] rfl rfl (by decide) (by decide) (by decide) 0 rfl rfl rfl ⟨rfl, rfl, Nat.le_of_ble_eq_true rfl, Nat.le_of_ble_eq_true rfl⟩ ⟨Nat.zero_le _, Nat.zero_le _⟩ rfl hl.1 rfl (Nat.le_of_ble_eq_true rfl) d_Mo_mends_218 (fun H locs hP hD hS => ?_)
    have hP : va_P D classes (w_Mo_mends cI cJ qM qM_system qM_solved qM_logarithms qM_powers qM_values qM_word qM_wrong M_thrown M_depth M_pattern M_craft M_begins M_firsts M_seconds M_forms M_elements M_mixer M_data M_waiting M_master M_counts M_line M_length M_sent M_state M_places M_least M_row M_rowSize M_differ M_blocks M_marks M_wrongs M_bytes M_rights M_tells M_lastMaster M_lastCounts M_fill M_half g20 g21 M_logarithms M_powers M_values M_word M_wrong) H := hP.sub [3, 4, 5, 6, 7, 0, 1, 2] rfl
    have hD : va_D A (w_Mo_mends cI cJ qM qM_system qM_solved qM_logarithms qM_powers qM_values qM_word qM_wrong M_thrown M_depth M_pattern M_craft M_begins M_firsts M_seconds M_forms M_elements M_mixer M_data M_waiting M_master M_counts M_line M_length M_sent M_state M_places M_least M_row M_rowSize M_differ M_blocks M_marks M_wrongs M_bytes M_rights M_tells M_lastMaster M_lastCounts M_fill M_half g20 g21 M_logarithms M_powers M_values M_word M_wrong) := hD.sub [3, 4, 5, 6, 7, 0, 1, 2] (by decide) rfl
    refine z_ifn hm (lv_if_ne (tgt := 226) hx hb d_Mo_mends_221 (by decide)) (fun hm => ?_) (fun hm => ?_)
    · refine lv_iconst (v := (0 : Int32)) hx hb d_Mo_mends_224 (by decide) ?_
      obtain ⟨hz, hm⟩ := zb_el hm
      cases hm
      exact z_qo hQ (z_iretz hz hr hx hb hlocks hK hP hD hS d_Mo_mends_225)
    · refine lv_iconst (v := (0 : Int32)) hx hb d_Mo_mends_226 (by decide) ?_
      refine lv_istore_n (lv' := [(3, .int (0 : Int32)), (0, .ref qM), (1, .int x1)]) hx hb d_Mo_mends_227 rfl hl (by decide) rfl (fun ls hl => ?_)
      exact T228 10000 x1 (0 : Int32) g20 g21 M_values M_word M_wrong hm _ _ hP hD hS _ (lv_sub hl [1, 2, 0] rfl)
  have T148 : ∀ (n148 : Nat) (x1 : Int32) (x3 : Int32) (M_system : Nat → Int32) (M_solved : Nat → Int32) (M_values : Nat → Int32) (M_word : Nat → Int32) (M_wrong : Nat → Int32), f_Mo_mends_148 M_fill M_half M_logarithms M_powers n148 x1 x3 M_system M_solved M_values M_word M_wrong = some (rr, M_system', M_solved', M_values', M_word', M_wrong') → ∀ (H : Heap) (locs : List Loc), va_P D classes (w_Mo_mends cI cJ qM qM_system qM_solved qM_logarithms qM_powers qM_values qM_word qM_wrong M_thrown M_depth M_pattern M_craft M_begins M_firsts M_seconds M_forms M_elements M_mixer M_data M_waiting M_master M_counts M_line M_length M_sent M_state M_places M_least M_row M_rowSize M_differ M_blocks M_marks M_wrongs M_bytes M_rights M_tells M_lastMaster M_lastCounts M_fill M_half M_system M_solved M_logarithms M_powers M_values M_word M_wrong) H → va_D A (w_Mo_mends cI cJ qM qM_system qM_solved qM_logarithms qM_powers qM_values qM_word qM_wrong M_thrown M_depth M_pattern M_craft M_begins M_firsts M_seconds M_forms M_elements M_mixer M_data M_waiting M_master M_counts M_line M_length M_sent M_state M_places M_least M_row M_rowSize M_differ M_blocks M_marks M_wrongs M_bytes M_rights M_tells M_lastMaster M_lastCounts M_fill M_half M_system M_solved M_logarithms M_powers M_values M_word M_wrong) → va_S A s.heap H locs → ∀ (ls : Array Slot), lv_has ls 7 [(0, .ref qM), (1, .int x1), (3, .int x3)] → W p l e (RM 2 49) s m args below meth c H locs 0 0 Q0 (F0 m 148 ls []) := by
    intro n148
    induction n148 with
    | zero => intro x1 x3 M_system M_solved M_values M_word M_wrong hm; cases hm
    | succ n148 ih148 =>
      have T193 : ∀ (x1 : Int32) (x3 : Int32) (M_system : Nat → Int32) (M_solved : Nat → Int32) (M_values : Nat → Int32) (M_word : Nat → Int32) (M_wrong : Nat → Int32), f_Mo_mends_193 (f_Mo_mends_148 M_fill M_half M_logarithms M_powers n148) x1 x3 M_system M_solved M_values M_word M_wrong = some (rr, M_system', M_solved', M_values', M_word', M_wrong') → ∀ (H : Heap) (locs : List Loc), va_P D classes (w_Mo_mends cI cJ qM qM_system qM_solved qM_logarithms qM_powers qM_values qM_word qM_wrong M_thrown M_depth M_pattern M_craft M_begins M_firsts M_seconds M_forms M_elements M_mixer M_data M_waiting M_master M_counts M_line M_length M_sent M_state M_places M_least M_row M_rowSize M_differ M_blocks M_marks M_wrongs M_bytes M_rights M_tells M_lastMaster M_lastCounts M_fill M_half M_system M_solved M_logarithms M_powers M_values M_word M_wrong) H → va_D A (w_Mo_mends cI cJ qM qM_system qM_solved qM_logarithms qM_powers qM_values qM_word qM_wrong M_thrown M_depth M_pattern M_craft M_begins M_firsts M_seconds M_forms M_elements M_mixer M_data M_waiting M_master M_counts M_line M_length M_sent M_state M_places M_least M_row M_rowSize M_differ M_blocks M_marks M_wrongs M_bytes M_rights M_tells M_lastMaster M_lastCounts M_fill M_half M_system M_solved M_logarithms M_powers M_values M_word M_wrong) → va_S A s.heap H locs → ∀ (ls : Array Slot), lv_has ls 7 [(0, .ref qM), (1, .int x1), (3, .int x3)] → W p l e (RM 2 49) s m args below meth c H locs 0 0 Q0 (F0 m 193 ls []) := by
        intro x1 x3 M_system M_solved M_values M_word M_wrong hm H locs hP hD hS ls hl
        unfold f_Mo_mends_193 at hm
        refine lv_aload_n hx hb d_Mo_mends_193 rfl (lv_at hl 0 rfl) ?_
        refine va_get (D := D) (ci := 11) (v := .ref qM_system) (C := "DeepChannelModel") (T := fT_Mo) (N := 40) hx hb hts u_Mo hown hK hP 0 rfl rfl 37 (by decide) (hts _ k_923) (fun _ h9 => h9) rfl d_Mo_mends_194 ?_
        refine lv_bipush (v := (33 : Int32)) hx hb d_Mo_mends_197 (by decide) ?_
        refine lv_iload_n hx hb d_Mo_mends_199 rfl (lv_at hl 2 rfl) ?_
        refine lv_imul hx hb d_Mo_mends_200 ?_
        refine lv_iload_n hx hb d_Mo_mends_201 rfl (lv_at hl 1 rfl) ?_
        refine lv_iadd hx hb d_Mo_mends_202 ?_
        refine lv_aload_n hx hb d_Mo_mends_203 rfl (lv_at hl 0 rfl) ?_
        refine va_get (D := D) (ci := 11) (v := .ref qM_values) (C := "DeepChannelModel") (T := fT_Mo) (N := 40) hx hb hts u_Mo hown hK hP 0 rfl rfl 36 (by decide) (hts _ k_922) (fun _ h9 => h9) rfl d_Mo_mends_204 ?_
        refine lv_iload_n hx hb d_Mo_mends_207 rfl (lv_at hl 2 rfl) ?_
        refine z_iald hm hx hb hK hP 5 rfl d_Mo_mends_208 (fun v23 hm => ?_)
        refine z_iast hm hx hb hK hP hD hS 1 rfl d_Mo_mends_209 (fun g24 hm H locs hP hD hS => ?_)
        have hP : va_P D classes (w_Mo_mends cI cJ qM qM_system qM_solved qM_logarithms qM_powers qM_values qM_word qM_wrong M_thrown M_depth M_pattern M_craft M_begins M_firsts M_seconds M_forms M_elements M_mixer M_data M_waiting M_master M_counts M_line M_length M_sent M_state M_places M_least M_row M_rowSize M_differ M_blocks M_marks M_wrongs M_bytes M_rights M_tells M_lastMaster M_lastCounts M_fill M_half g24 M_solved M_logarithms M_powers M_values M_word M_wrong) H := hP
        have hD : va_D A (w_Mo_mends cI cJ qM qM_system qM_solved qM_logarithms qM_powers qM_values qM_word qM_wrong M_thrown M_depth M_pattern M_craft M_begins M_firsts M_seconds M_forms M_elements M_mixer M_data M_waiting M_master M_counts M_line M_length M_sent M_state M_places M_least M_row M_rowSize M_differ M_blocks M_marks M_wrongs M_bytes M_rights M_tells M_lastMaster M_lastCounts M_fill M_half g24 M_solved M_logarithms M_powers M_values M_word M_wrong) := hD
        obtain ⟨v25, ev, hm⟩ := nm_el hm
        refine lv_iinc (v := v25) (lv' := [(3, .int v25), (0, .ref qM), (1, .int x1)]) hx hb d_Mo_mends_210 hl (k := 2) rfl (by rw [ev]; rfl) (by decide) rfl (fun ls hl => ?_)
        refine lv_goto (tgt := 148) hx hb d_Mo_mends_213 (by decide) ?_
        exact ih148 x1 v25 g24 M_solved M_values M_word M_wrong hm _ _ hP hD hS _ (lv_sub hl [1, 2, 0] rfl)
      have T156 : ∀ (n156 : Nat) (x1 : Int32) (x3 : Int32) (x4 : Int32) (M_system : Nat → Int32) (M_solved : Nat → Int32) (M_values : Nat → Int32) (M_word : Nat → Int32) (M_wrong : Nat → Int32), f_Mo_mends_156 M_powers (f_Mo_mends_148 M_fill M_half M_logarithms M_powers n148) n156 x1 x3 x4 M_system M_solved M_values M_word M_wrong = some (rr, M_system', M_solved', M_values', M_word', M_wrong') → ∀ (H : Heap) (locs : List Loc), va_P D classes (w_Mo_mends cI cJ qM qM_system qM_solved qM_logarithms qM_powers qM_values qM_word qM_wrong M_thrown M_depth M_pattern M_craft M_begins M_firsts M_seconds M_forms M_elements M_mixer M_data M_waiting M_master M_counts M_line M_length M_sent M_state M_places M_least M_row M_rowSize M_differ M_blocks M_marks M_wrongs M_bytes M_rights M_tells M_lastMaster M_lastCounts M_fill M_half M_system M_solved M_logarithms M_powers M_values M_word M_wrong) H → va_D A (w_Mo_mends cI cJ qM qM_system qM_solved qM_logarithms qM_powers qM_values qM_word qM_wrong M_thrown M_depth M_pattern M_craft M_begins M_firsts M_seconds M_forms M_elements M_mixer M_data M_waiting M_master M_counts M_line M_length M_sent M_state M_places M_least M_row M_rowSize M_differ M_blocks M_marks M_wrongs M_bytes M_rights M_tells M_lastMaster M_lastCounts M_fill M_half M_system M_solved M_logarithms M_powers M_values M_word M_wrong) → va_S A s.heap H locs → ∀ (ls : Array Slot), lv_has ls 7 [(0, .ref qM), (1, .int x1), (3, .int x3), (4, .int x4)] → W p l e (RM 2 49) s m args below meth c H locs 0 0 Q0 (F0 m 156 ls []) := by
        intro n156
        induction n156 with
        | zero => intro x1 x3 x4 M_system M_solved M_values M_word M_wrong hm; cases hm
        | succ n156 ih156 =>
          intro x1 x3 x4 M_system M_solved M_values M_word M_wrong hm H locs hP hD hS ls hl
          replace hm : f_Mo_mends_156_b M_powers (f_Mo_mends_148 M_fill M_half M_logarithms M_powers n148) (f_Mo_mends_156 M_powers (f_Mo_mends_148 M_fill M_half M_logarithms M_powers n148) n156) x1 x3 x4 M_system M_solved M_values M_word M_wrong = some (rr, M_system', M_solved', M_values', M_word', M_wrong') := hm
          unfold f_Mo_mends_156_b at hm
          refine lv_iload hx hb d_Mo_mends_156 (lv_at hl 3 rfl) ?_
          refine lv_iload_n hx hb d_Mo_mends_158 rfl (lv_at hl 1 rfl) ?_
          refine z_if hm (lv_icmp_ge (tgt := 193) hx hb d_Mo_mends_159 (by decide)) (fun hm => ?_) (fun hm => ?_)
          · exact T193 x1 x3 M_system M_solved M_values M_word M_wrong hm _ _ hP hD hS _ (lv_sub hl [0, 1, 2] rfl)
          · refine lv_aload_n hx hb d_Mo_mends_162 rfl (lv_at hl 0 rfl) ?_
            refine va_get (D := D) (ci := 11) (v := .ref qM_system) (C := "DeepChannelModel") (T := fT_Mo) (N := 40) hx hb hts u_Mo hown hK hP 0 rfl rfl 37 (by decide) (hts _ k_923) (fun _ h9 => h9) rfl d_Mo_mends_163 ?_
            refine lv_bipush (v := (33 : Int32)) hx hb d_Mo_mends_166 (by decide) ?_
            refine lv_iload_n hx hb d_Mo_mends_168 rfl (lv_at hl 2 rfl) ?_
            refine lv_imul hx hb d_Mo_mends_169 ?_
            refine lv_iload hx hb d_Mo_mends_170 (lv_at hl 3 rfl) ?_
            refine lv_iadd hx hb d_Mo_mends_172 ?_
            refine lv_aload_n hx hb d_Mo_mends_173 rfl (lv_at hl 0 rfl) ?_
            refine lv_aload_n hx hb d_Mo_mends_174 rfl (lv_at hl 0 rfl) ?_
            refine va_get (D := D) (ci := 11) (v := .ref qM_wrong) (C := "DeepChannelModel") (T := fT_Mo) (N := 40) hx hb hts u_Mo hown hK hP 0 rfl rfl 39 (by decide) (hts _ k_925) (fun _ h9 => h9) rfl d_Mo_mends_175 ?_
            refine lv_iload hx hb d_Mo_mends_178 (lv_at hl 3 rfl) ?_
            refine z_iald hm hx hb hK hP 7 rfl d_Mo_mends_180 (fun v26 hm => ?_)
            refine lv_iload_n hx hb d_Mo_mends_181 rfl (lv_at hl 2 rfl) ?_
            refine lv_imul hx hb d_Mo_mends_182 ?_
            obtain ⟨r27, hu, hm⟩ := bd_el hm
            replace hm := nm_1 hm
            refine z_cVi (wc := w_Mo_ofG cI cJ qM qM_powers M_thrown M_depth (.int M_fill) (.int M_half) M_pattern M_craft M_begins M_firsts M_seconds (.ref qM_logarithms) M_forms M_elements M_mixer M_data M_waiting M_master M_counts M_line M_length M_sent M_state M_places M_least M_row M_rowSize M_differ M_blocks M_marks M_wrongs M_bytes M_rights M_tells M_lastMaster M_lastCounts (.ref qM_word) (.ref qM_values) (.ref qM_system) (.ref qM_solved) (.ref qM_wrong) M_powers) (wc' := w_Mo_ofG cI cJ qM qM_powers M_thrown M_depth (.int M_fill) (.int M_half) M_pattern M_craft M_begins M_firsts M_seconds (.ref qM_logarithms) M_forms M_elements M_mixer M_data M_waiting M_master M_counts M_line M_length M_sent M_state M_places M_least M_row M_rowSize M_differ M_blocks M_marks M_wrongs M_bytes M_rights M_tells M_lastMaster M_lastCounts (.ref qM_word) (.ref qM_values) (.ref qM_system) (.ref qM_solved) (.ref qM_wrong) M_powers) (wr := [(qM_system, .inl (cI, 1056, .inl M_system)), (qM_solved, .inl (cI, 32, .inl M_solved)), (qM_logarithms, .inl (cI, 256, .inl M_logarithms)), (qM_values, .inl (cI, 32, .inl M_values)), (qM_word, .inl (cI, 255, .inl M_word)), (qM_wrong, .inl (cI, 16, .inl M_wrong))]) (As := [.int (v26 * x3)]) (rest := [.int (((33 : Int32) * x3) + x4), .ref qM_system]) (c_Mo_ofG l D cI cJ tt qM qM_powers M_thrown M_depth (.int M_fill) (.int M_half) M_pattern M_craft M_begins M_firsts M_seconds (.ref qM_logarithms) M_forms M_elements M_mixer M_data M_waiting M_master M_counts M_line M_length M_sent M_state M_places M_least M_row M_rowSize M_differ M_blocks M_marks M_wrongs M_bytes M_rights M_tells M_lastMaster M_lastCounts (.ref qM_word) (.ref qM_values) (.ref qM_system) (.ref qM_solved) (.ref qM_wrong) _ M_powers (v26 * x3) r27 hu) F ok_Mo_ofG rfl k_1086 hK hE hP hD hS hA [0, 4] [1, 2, 3, 5, 6, 7] rfl rfl (by decide) (by decide) (by decide) 0 rfl rfl rfl ⟨rfl, rfl, Nat.le_of_ble_eq_true rfl, Nat.le_of_ble_eq_true rfl⟩ ⟨Nat.zero_le _, Nat.zero_le _⟩ rfl hl.1 rfl (Nat.le_of_ble_eq_true rfl) d_Mo_mends_183 (fun H locs hP hD hS => ?_)
            have hP : va_P D classes (w_Mo_mends cI cJ qM qM_system qM_solved qM_logarithms qM_powers qM_values qM_word qM_wrong M_thrown M_depth M_pattern M_craft M_begins M_firsts M_seconds M_forms M_elements M_mixer M_data M_waiting M_master M_counts M_line M_length M_sent M_state M_places M_least M_row M_rowSize M_differ M_blocks M_marks M_wrongs M_bytes M_rights M_tells M_lastMaster M_lastCounts M_fill M_half M_system M_solved M_logarithms M_powers M_values M_word M_wrong) H := hP.sub [6, 0, 1, 2, 7, 3, 4, 5] rfl
            have hD : va_D A (w_Mo_mends cI cJ qM qM_system qM_solved qM_logarithms qM_powers qM_values qM_word qM_wrong M_thrown M_depth M_pattern M_craft M_begins M_firsts M_seconds M_forms M_elements M_mixer M_data M_waiting M_master M_counts M_line M_length M_sent M_state M_places M_least M_row M_rowSize M_differ M_blocks M_marks M_wrongs M_bytes M_rights M_tells M_lastMaster M_lastCounts M_fill M_half M_system M_solved M_logarithms M_powers M_values M_word M_wrong) := hD.sub [6, 0, 1, 2, 7, 3, 4, 5] (by decide) rfl
            refine z_iast hm hx hb hK hP hD hS 1 rfl d_Mo_mends_186 (fun g29 hm H locs hP hD hS => ?_)
            have hP : va_P D classes (w_Mo_mends cI cJ qM qM_system qM_solved qM_logarithms qM_powers qM_values qM_word qM_wrong M_thrown M_depth M_pattern M_craft M_begins M_firsts M_seconds M_forms M_elements M_mixer M_data M_waiting M_master M_counts M_line M_length M_sent M_state M_places M_least M_row M_rowSize M_differ M_blocks M_marks M_wrongs M_bytes M_rights M_tells M_lastMaster M_lastCounts M_fill M_half g29 M_solved M_logarithms M_powers M_values M_word M_wrong) H := hP
            have hD : va_D A (w_Mo_mends cI cJ qM qM_system qM_solved qM_logarithms qM_powers qM_values qM_word qM_wrong M_thrown M_depth M_pattern M_craft M_begins M_firsts M_seconds M_forms M_elements M_mixer M_data M_waiting M_master M_counts M_line M_length M_sent M_state M_places M_least M_row M_rowSize M_differ M_blocks M_marks M_wrongs M_bytes M_rights M_tells M_lastMaster M_lastCounts M_fill M_half g29 M_solved M_logarithms M_powers M_values M_word M_wrong) := hD
            obtain ⟨v30, ev, hm⟩ := nm_el hm
            refine lv_iinc (v := v30) (lv' := [(4, .int v30), (0, .ref qM), (1, .int x1), (3, .int x3)]) hx hb d_Mo_mends_187 hl (k := 3) rfl (by rw [ev]; rfl) (by decide) rfl (fun ls hl => ?_)
            refine lv_goto (tgt := 156) hx hb d_Mo_mends_190 (by decide) ?_
            exact ih156 x1 x3 v30 g29 M_solved M_values M_word M_wrong hm _ _ hP hD hS _ (lv_sub hl [1, 2, 3, 0] rfl)
      intro x1 x3 M_system M_solved M_values M_word M_wrong hm H locs hP hD hS ls hl
      replace hm : f_Mo_mends_148_b M_fill M_half M_logarithms M_powers (f_Mo_mends_148 M_fill M_half M_logarithms M_powers n148) x1 x3 M_system M_solved M_values M_word M_wrong = some (rr, M_system', M_solved', M_values', M_word', M_wrong') := hm
      unfold f_Mo_mends_148_b at hm
      refine lv_iload_n hx hb d_Mo_mends_148 rfl (lv_at hl 2 rfl) ?_
      refine lv_iload_n hx hb d_Mo_mends_149 rfl (lv_at hl 1 rfl) ?_
      refine z_if hm (lv_icmp_ge (tgt := 216) hx hb d_Mo_mends_150 (by decide)) (fun hm => ?_) (fun hm => ?_)
      · exact T216 x1 M_system M_solved M_values M_word M_wrong hm _ _ hP hD hS _ (lv_sub hl [0, 1] rfl)
      · refine lv_iconst (v := (0 : Int32)) hx hb d_Mo_mends_153 (by decide) ?_
        refine lv_istore (lv' := [(4, .int (0 : Int32)), (0, .ref qM), (1, .int x1), (3, .int x3)]) hx hb d_Mo_mends_154 hl (by decide) rfl (fun ls hl => ?_)
        exact T156 10000 x1 x3 (0 : Int32) M_system M_solved M_values M_word M_wrong hm _ _ hP hD hS _ (lv_sub hl [1, 2, 3, 0] rfl)
  have T139 : ∀ (x1 : Int32) (x2 : Int32) (M_system : Nat → Int32) (M_solved : Nat → Int32) (M_values : Nat → Int32) (M_word : Nat → Int32) (M_wrong : Nat → Int32), f_Mo_mends_139 M_fill M_half M_logarithms M_powers x1 x2 M_system M_solved M_values M_word M_wrong = some (rr, M_system', M_solved', M_values', M_word', M_wrong') → ∀ (H : Heap) (locs : List Loc), va_P D classes (w_Mo_mends cI cJ qM qM_system qM_solved qM_logarithms qM_powers qM_values qM_word qM_wrong M_thrown M_depth M_pattern M_craft M_begins M_firsts M_seconds M_forms M_elements M_mixer M_data M_waiting M_master M_counts M_line M_length M_sent M_state M_places M_least M_row M_rowSize M_differ M_blocks M_marks M_wrongs M_bytes M_rights M_tells M_lastMaster M_lastCounts M_fill M_half M_system M_solved M_logarithms M_powers M_values M_word M_wrong) H → va_D A (w_Mo_mends cI cJ qM qM_system qM_solved qM_logarithms qM_powers qM_values qM_word qM_wrong M_thrown M_depth M_pattern M_craft M_begins M_firsts M_seconds M_forms M_elements M_mixer M_data M_waiting M_master M_counts M_line M_length M_sent M_state M_places M_least M_row M_rowSize M_differ M_blocks M_marks M_wrongs M_bytes M_rights M_tells M_lastMaster M_lastCounts M_fill M_half M_system M_solved M_logarithms M_powers M_values M_word M_wrong) → va_S A s.heap H locs → ∀ (ls : Array Slot), lv_has ls 7 [(0, .ref qM), (1, .int x1), (2, .int x2)] → W p l e (RM 2 49) s m args below meth c H locs 0 0 Q0 (F0 m 139 ls []) := by
    intro x1 x2 M_system M_solved M_values M_word M_wrong hm H locs hP hD hS ls hl
    unfold f_Mo_mends_139 at hm
    refine lv_iload_n hx hb d_Mo_mends_139 rfl (lv_at hl 2 rfl) ?_
    refine lv_iload_n hx hb d_Mo_mends_140 rfl (lv_at hl 1 rfl) ?_
    refine z_if hm (lv_icmp_ge (tgt := 146) hx hb d_Mo_mends_141 (by decide)) (fun hm => ?_) (fun hm => ?_)
    · refine lv_iconst (v := (0 : Int32)) hx hb d_Mo_mends_146 (by decide) ?_
      refine lv_istore_n (lv' := [(3, .int (0 : Int32)), (0, .ref qM), (1, .int x1), (2, .int x2)]) hx hb d_Mo_mends_147 rfl hl (by decide) rfl (fun ls hl => ?_)
      exact T148 10000 x1 (0 : Int32) M_system M_solved M_values M_word M_wrong hm _ _ hP hD hS _ (lv_sub hl [1, 2, 0] rfl)
    · refine lv_iconst (v := (0 : Int32)) hx hb d_Mo_mends_144 (by decide) ?_
      obtain ⟨hz, hm⟩ := zb_el hm
      cases hm
      exact z_qo hQ (z_iretz hz hr hx hb hlocks hK hP hD hS d_Mo_mends_145)
  have T59 : ∀ (n59 : Nat) (x1 : Int32) (x2 : Int32) (x3 : Int32) (M_system : Nat → Int32) (M_solved : Nat → Int32) (M_values : Nat → Int32) (M_word : Nat → Int32) (M_wrong : Nat → Int32), f_Mo_mends_59 M_fill M_half M_logarithms M_powers n59 x1 x2 x3 M_system M_solved M_values M_word M_wrong = some (rr, M_system', M_solved', M_values', M_word', M_wrong') → ∀ (H : Heap) (locs : List Loc), va_P D classes (w_Mo_mends cI cJ qM qM_system qM_solved qM_logarithms qM_powers qM_values qM_word qM_wrong M_thrown M_depth M_pattern M_craft M_begins M_firsts M_seconds M_forms M_elements M_mixer M_data M_waiting M_master M_counts M_line M_length M_sent M_state M_places M_least M_row M_rowSize M_differ M_blocks M_marks M_wrongs M_bytes M_rights M_tells M_lastMaster M_lastCounts M_fill M_half M_system M_solved M_logarithms M_powers M_values M_word M_wrong) H → va_D A (w_Mo_mends cI cJ qM qM_system qM_solved qM_logarithms qM_powers qM_values qM_word qM_wrong M_thrown M_depth M_pattern M_craft M_begins M_firsts M_seconds M_forms M_elements M_mixer M_data M_waiting M_master M_counts M_line M_length M_sent M_state M_places M_least M_row M_rowSize M_differ M_blocks M_marks M_wrongs M_bytes M_rights M_tells M_lastMaster M_lastCounts M_fill M_half M_system M_solved M_logarithms M_powers M_values M_word M_wrong) → va_S A s.heap H locs → ∀ (ls : Array Slot), lv_has ls 7 [(0, .ref qM), (1, .int x1), (2, .int x2), (3, .int x3)] → W p l e (RM 2 49) s m args below meth c H locs 0 0 Q0 (F0 m 59 ls []) := by
    intro n59
    induction n59 with
    | zero => intro x1 x2 x3 M_system M_solved M_values M_word M_wrong hm; cases hm
    | succ n59 ih59 =>
      have T133 : ∀ (x1 : Int32) (x2 : Int32) (x3 : Int32) (M_system : Nat → Int32) (M_solved : Nat → Int32) (M_values : Nat → Int32) (M_word : Nat → Int32) (M_wrong : Nat → Int32), f_Mo_mends_133 (f_Mo_mends_59 M_fill M_half M_logarithms M_powers n59) x1 x2 x3 M_system M_solved M_values M_word M_wrong = some (rr, M_system', M_solved', M_values', M_word', M_wrong') → ∀ (H : Heap) (locs : List Loc), va_P D classes (w_Mo_mends cI cJ qM qM_system qM_solved qM_logarithms qM_powers qM_values qM_word qM_wrong M_thrown M_depth M_pattern M_craft M_begins M_firsts M_seconds M_forms M_elements M_mixer M_data M_waiting M_master M_counts M_line M_length M_sent M_state M_places M_least M_row M_rowSize M_differ M_blocks M_marks M_wrongs M_bytes M_rights M_tells M_lastMaster M_lastCounts M_fill M_half M_system M_solved M_logarithms M_powers M_values M_word M_wrong) H → va_D A (w_Mo_mends cI cJ qM qM_system qM_solved qM_logarithms qM_powers qM_values qM_word qM_wrong M_thrown M_depth M_pattern M_craft M_begins M_firsts M_seconds M_forms M_elements M_mixer M_data M_waiting M_master M_counts M_line M_length M_sent M_state M_places M_least M_row M_rowSize M_differ M_blocks M_marks M_wrongs M_bytes M_rights M_tells M_lastMaster M_lastCounts M_fill M_half M_system M_solved M_logarithms M_powers M_values M_word M_wrong) → va_S A s.heap H locs → ∀ (ls : Array Slot), lv_has ls 7 [(0, .ref qM), (1, .int x1), (2, .int x2), (3, .int x3)] → W p l e (RM 2 49) s m args below meth c H locs 0 0 Q0 (F0 m 133 ls []) := by
        intro x1 x2 x3 M_system M_solved M_values M_word M_wrong hm H locs hP hD hS ls hl
        unfold f_Mo_mends_133 at hm
        obtain ⟨v31, ev, hm⟩ := nm_el hm
        refine lv_iinc (v := v31) (lv' := [(3, .int v31), (0, .ref qM), (1, .int x1), (2, .int x2)]) hx hb d_Mo_mends_133 hl (k := 3) rfl (by rw [ev]; rfl) (by decide) rfl (fun ls hl => ?_)
        refine lv_goto (tgt := 59) hx hb d_Mo_mends_136 (by decide) ?_
        exact ih59 x1 x2 v31 M_system M_solved M_values M_word M_wrong hm _ _ hP hD hS _ (lv_sub hl [1, 2, 3, 0] rfl)
      have T111 : ∀ (x1 : Int32) (x2 : Int32) (x3 : Int32) (x5 : Int32) (M_system : Nat → Int32) (M_solved : Nat → Int32) (M_values : Nat → Int32) (M_word : Nat → Int32) (M_wrong : Nat → Int32), f_Mo_mends_111 (f_Mo_mends_59 M_fill M_half M_logarithms M_powers n59) x1 x2 x3 x5 M_system M_solved M_values M_word M_wrong = some (rr, M_system', M_solved', M_values', M_word', M_wrong') → ∀ (H : Heap) (locs : List Loc), va_P D classes (w_Mo_mends cI cJ qM qM_system qM_solved qM_logarithms qM_powers qM_values qM_word qM_wrong M_thrown M_depth M_pattern M_craft M_begins M_firsts M_seconds M_forms M_elements M_mixer M_data M_waiting M_master M_counts M_line M_length M_sent M_state M_places M_least M_row M_rowSize M_differ M_blocks M_marks M_wrongs M_bytes M_rights M_tells M_lastMaster M_lastCounts M_fill M_half M_system M_solved M_logarithms M_powers M_values M_word M_wrong) H → va_D A (w_Mo_mends cI cJ qM qM_system qM_solved qM_logarithms qM_powers qM_values qM_word qM_wrong M_thrown M_depth M_pattern M_craft M_begins M_firsts M_seconds M_forms M_elements M_mixer M_data M_waiting M_master M_counts M_line M_length M_sent M_state M_places M_least M_row M_rowSize M_differ M_blocks M_marks M_wrongs M_bytes M_rights M_tells M_lastMaster M_lastCounts M_fill M_half M_system M_solved M_logarithms M_powers M_values M_word M_wrong) → va_S A s.heap H locs → ∀ (ls : Array Slot), lv_has ls 7 [(0, .ref qM), (1, .int x1), (2, .int x2), (3, .int x3), (5, .int x5)] → W p l e (RM 2 49) s m args below meth c H locs 0 0 Q0 (F0 m 111 ls []) := by
        intro x1 x2 x3 x5 M_system M_solved M_values M_word M_wrong hm H locs hP hD hS ls hl
        unfold f_Mo_mends_111 at hm
        refine lv_iload hx hb d_Mo_mends_111 (lv_at hl 4 rfl) ?_
        refine z_ifn hm (lv_if_ne (tgt := 133) hx hb d_Mo_mends_113 (by decide)) (fun hm => ?_) (fun hm => ?_)
        · refine lv_iload_n hx hb d_Mo_mends_116 rfl (lv_at hl 2 rfl) ?_
          refine lv_iload_n hx hb d_Mo_mends_117 rfl (lv_at hl 1 rfl) ?_
          refine z_ifn hm (lv_icmp_ne (tgt := 123) hx hb d_Mo_mends_118 (by decide)) (fun hm => ?_) (fun hm => ?_)
          · refine lv_iconst (v := (0 : Int32)) hx hb d_Mo_mends_121 (by decide) ?_
            obtain ⟨hz, hm⟩ := zb_el hm
            cases hm
            exact z_qo hQ (z_iretz hz hr hx hb hlocks hK hP hD hS d_Mo_mends_122)
          · refine lv_aload_n hx hb d_Mo_mends_123 rfl (lv_at hl 0 rfl) ?_
            refine va_get (D := D) (ci := 11) (v := .ref qM_wrong) (C := "DeepChannelModel") (T := fT_Mo) (N := 40) hx hb hts u_Mo hown hK hP 0 rfl rfl 39 (by decide) (hts _ k_925) (fun _ h9 => h9) rfl d_Mo_mends_124 ?_
            refine lv_iload_n hx hb d_Mo_mends_127 rfl (lv_at hl 2 rfl) ?_
            refine lv_iload_n hx hb d_Mo_mends_128 rfl (lv_at hl 3 rfl) ?_
            refine z_iast hm hx hb hK hP hD hS 7 rfl d_Mo_mends_129 (fun g32 hm H locs hP hD hS => ?_)
            have hP : va_P D classes (w_Mo_mends cI cJ qM qM_system qM_solved qM_logarithms qM_powers qM_values qM_word qM_wrong M_thrown M_depth M_pattern M_craft M_begins M_firsts M_seconds M_forms M_elements M_mixer M_data M_waiting M_master M_counts M_line M_length M_sent M_state M_places M_least M_row M_rowSize M_differ M_blocks M_marks M_wrongs M_bytes M_rights M_tells M_lastMaster M_lastCounts M_fill M_half M_system M_solved M_logarithms M_powers M_values M_word g32) H := hP
            have hD : va_D A (w_Mo_mends cI cJ qM qM_system qM_solved qM_logarithms qM_powers qM_values qM_word qM_wrong M_thrown M_depth M_pattern M_craft M_begins M_firsts M_seconds M_forms M_elements M_mixer M_data M_waiting M_master M_counts M_line M_length M_sent M_state M_places M_least M_row M_rowSize M_differ M_blocks M_marks M_wrongs M_bytes M_rights M_tells M_lastMaster M_lastCounts M_fill M_half M_system M_solved M_logarithms M_powers M_values M_word g32) := hD
            obtain ⟨v33, ev, hm⟩ := nm_el hm
            refine lv_iinc (v := v33) (lv' := [(2, .int v33), (0, .ref qM), (1, .int x1), (3, .int x3), (5, .int x5)]) hx hb d_Mo_mends_130 hl (k := 2) rfl (by rw [ev]; rfl) (by decide) rfl (fun ls hl => ?_)
            exact T133 x1 v33 x3 M_system M_solved M_values M_word g32 hm _ _ hP hD hS _ (lv_sub hl [1, 2, 0, 3] rfl)
        · exact T133 x1 x2 x3 M_system M_solved M_values M_word M_wrong hm _ _ hP hD hS _ (lv_sub hl [0, 1, 2, 3] rfl)
      have T82 : ∀ (n82 : Nat) (x1 : Int32) (x2 : Int32) (x3 : Int32) (x4 : Int32) (x5 : Int32) (x6 : Int32) (M_system : Nat → Int32) (M_solved : Nat → Int32) (M_values : Nat → Int32) (M_word : Nat → Int32) (M_wrong : Nat → Int32), f_Mo_mends_82 M_logarithms M_powers (f_Mo_mends_59 M_fill M_half M_logarithms M_powers n59) n82 x1 x2 x3 x4 x5 x6 M_system M_solved M_values M_word M_wrong = some (rr, M_system', M_solved', M_values', M_word', M_wrong') → ∀ (H : Heap) (locs : List Loc), va_P D classes (w_Mo_mends cI cJ qM qM_system qM_solved qM_logarithms qM_powers qM_values qM_word qM_wrong M_thrown M_depth M_pattern M_craft M_begins M_firsts M_seconds M_forms M_elements M_mixer M_data M_waiting M_master M_counts M_line M_length M_sent M_state M_places M_least M_row M_rowSize M_differ M_blocks M_marks M_wrongs M_bytes M_rights M_tells M_lastMaster M_lastCounts M_fill M_half M_system M_solved M_logarithms M_powers M_values M_word M_wrong) H → va_D A (w_Mo_mends cI cJ qM qM_system qM_solved qM_logarithms qM_powers qM_values qM_word qM_wrong M_thrown M_depth M_pattern M_craft M_begins M_firsts M_seconds M_forms M_elements M_mixer M_data M_waiting M_master M_counts M_line M_length M_sent M_state M_places M_least M_row M_rowSize M_differ M_blocks M_marks M_wrongs M_bytes M_rights M_tells M_lastMaster M_lastCounts M_fill M_half M_system M_solved M_logarithms M_powers M_values M_word M_wrong) → va_S A s.heap H locs → ∀ (ls : Array Slot), lv_has ls 7 [(0, .ref qM), (1, .int x1), (2, .int x2), (3, .int x3), (4, .int x4), (5, .int x5), (6, .int x6)] → W p l e (RM 2 49) s m args below meth c H locs 0 0 Q0 (F0 m 82 ls []) := by
        intro n82
        induction n82 with
        | zero => intro x1 x2 x3 x4 x5 x6 M_system M_solved M_values M_word M_wrong hm; cases hm
        | succ n82 ih82 =>
          intro x1 x2 x3 x4 x5 x6 M_system M_solved M_values M_word M_wrong hm H locs hP hD hS ls hl
          replace hm : f_Mo_mends_82_b M_logarithms M_powers (f_Mo_mends_59 M_fill M_half M_logarithms M_powers n59) (f_Mo_mends_82 M_logarithms M_powers (f_Mo_mends_59 M_fill M_half M_logarithms M_powers n59) n82) x1 x2 x3 x4 x5 x6 M_system M_solved M_values M_word M_wrong = some (rr, M_system', M_solved', M_values', M_word', M_wrong') := hm
          unfold f_Mo_mends_82_b at hm
          refine lv_iload hx hb d_Mo_mends_82 (lv_at hl 6 rfl) ?_
          refine z_if hm (lv_if_lt (tgt := 111) hx hb d_Mo_mends_84 (by decide)) (fun hm => ?_) (fun hm => ?_)
          · exact T111 x1 x2 x3 x5 M_system M_solved M_values M_word M_wrong hm _ _ hP hD hS _ (lv_sub hl [0, 1, 2, 3, 5] rfl)
          · refine lv_aload_n hx hb d_Mo_mends_87 rfl (lv_at hl 0 rfl) ?_
            refine lv_iload hx hb d_Mo_mends_88 (lv_at hl 5 rfl) ?_
            refine lv_iload hx hb d_Mo_mends_90 (lv_at hl 4 rfl) ?_
            obtain ⟨r34, hu, hm⟩ := bd_el hm
            replace hm := nm_1 hm
            refine z_cVi (wc := w_Mo_product cI cJ qM qM_logarithms qM_powers M_thrown M_depth (.int M_fill) (.int M_half) M_pattern M_craft M_begins M_firsts M_seconds M_forms M_elements M_mixer M_data M_waiting M_master M_counts M_line M_length M_sent M_state M_places M_least M_row M_rowSize M_differ M_blocks M_marks M_wrongs M_bytes M_rights M_tells M_lastMaster M_lastCounts (.ref qM_word) (.ref qM_values) (.ref qM_system) (.ref qM_solved) (.ref qM_wrong) M_logarithms M_powers) (wc' := w_Mo_product cI cJ qM qM_logarithms qM_powers M_thrown M_depth (.int M_fill) (.int M_half) M_pattern M_craft M_begins M_firsts M_seconds M_forms M_elements M_mixer M_data M_waiting M_master M_counts M_line M_length M_sent M_state M_places M_least M_row M_rowSize M_differ M_blocks M_marks M_wrongs M_bytes M_rights M_tells M_lastMaster M_lastCounts (.ref qM_word) (.ref qM_values) (.ref qM_system) (.ref qM_solved) (.ref qM_wrong) M_logarithms M_powers) (wr := [(qM_system, .inl (cI, 1056, .inl M_system)), (qM_solved, .inl (cI, 32, .inl M_solved)), (qM_values, .inl (cI, 32, .inl M_values)), (qM_word, .inl (cI, 255, .inl M_word)), (qM_wrong, .inl (cI, 16, .inl M_wrong))]) (As := [.int x5, .int x4]) (rest := []) (c_Mo_product l D cI cJ tt qM qM_logarithms qM_powers M_thrown M_depth (.int M_fill) (.int M_half) M_pattern M_craft M_begins M_firsts M_seconds M_forms M_elements M_mixer M_data M_waiting M_master M_counts M_line M_length M_sent M_state M_places M_least M_row M_rowSize M_differ M_blocks M_marks M_wrongs M_bytes M_rights M_tells M_lastMaster M_lastCounts (.ref qM_word) (.ref qM_values) (.ref qM_system) (.ref qM_solved) (.ref qM_wrong) _ M_logarithms M_powers x5 x4 r34 hu) F ok_Mo_product rfl k_1090 hK hE hP hD hS hA [0, 3, 4] [1, 2, 5, 6, 7] rfl rfl (by decide) (by decide) (by decide) 0 rfl rfl rfl ⟨rfl, rfl, Nat.le_of_ble_eq_true rfl, Nat.le_of_ble_eq_true rfl⟩ ⟨Nat.zero_le _, Nat.zero_le _⟩ rfl hl.1 rfl (Nat.le_of_ble_eq_true rfl) d_Mo_mends_92 (fun H locs hP hD hS => ?_)
            have hP : va_P D classes (w_Mo_mends cI cJ qM qM_system qM_solved qM_logarithms qM_powers qM_values qM_word qM_wrong M_thrown M_depth M_pattern M_craft M_begins M_firsts M_seconds M_forms M_elements M_mixer M_data M_waiting M_master M_counts M_line M_length M_sent M_state M_places M_least M_row M_rowSize M_differ M_blocks M_marks M_wrongs M_bytes M_rights M_tells M_lastMaster M_lastCounts M_fill M_half M_system M_solved M_logarithms M_powers M_values M_word M_wrong) H := hP.sub [5, 0, 1, 6, 7, 2, 3, 4] rfl
            have hD : va_D A (w_Mo_mends cI cJ qM qM_system qM_solved qM_logarithms qM_powers qM_values qM_word qM_wrong M_thrown M_depth M_pattern M_craft M_begins M_firsts M_seconds M_forms M_elements M_mixer M_data M_waiting M_master M_counts M_line M_length M_sent M_state M_places M_least M_row M_rowSize M_differ M_blocks M_marks M_wrongs M_bytes M_rights M_tells M_lastMaster M_lastCounts M_fill M_half M_system M_solved M_logarithms M_powers M_values M_word M_wrong) := hD.sub [5, 0, 1, 6, 7, 2, 3, 4] (by decide) rfl
            refine lv_aload_n hx hb d_Mo_mends_95 rfl (lv_at hl 0 rfl) ?_
            refine va_get (D := D) (ci := 11) (v := .ref qM_solved) (C := "DeepChannelModel") (T := fT_Mo) (N := 40) hx hb hts u_Mo hown hK hP 0 rfl rfl 38 (by decide) (hts _ k_924) (fun _ h9 => h9) rfl d_Mo_mends_96 ?_
            refine lv_iload hx hb d_Mo_mends_99 (lv_at hl 6 rfl) ?_
            refine z_iald hm hx hb hK hP 2 rfl d_Mo_mends_101 (fun v36 hm => ?_)
            refine lv_ixor hx hb d_Mo_mends_102 ?_
            refine z_nmi hm (fun v37 hm => ?_)
            refine lv_istore (lv' := [(5, .int v37), (0, .ref qM), (1, .int x1), (2, .int x2), (3, .int x3), (4, .int x4), (6, .int x6)]) hx hb d_Mo_mends_103 hl (by decide) rfl (fun ls hl => ?_)
            obtain ⟨v38, ev, hm⟩ := nm_el hm
            refine lv_iinc (v := v38) (lv' := [(6, .int v38), (5, .int v37), (0, .ref qM), (1, .int x1), (2, .int x2), (3, .int x3), (4, .int x4)]) hx hb d_Mo_mends_105 hl (k := 6) rfl (by rw [ev]; rfl) (by decide) rfl (fun ls hl => ?_)
            refine lv_goto (tgt := 82) hx hb d_Mo_mends_108 (by decide) ?_
            exact ih82 x1 x2 x3 x4 v37 v38 M_system M_solved M_values M_word M_wrong hm _ _ hP hD hS _ (lv_sub hl [2, 3, 4, 5, 6, 1, 0] rfl)
      intro x1 x2 x3 M_system M_solved M_values M_word M_wrong hm H locs hP hD hS ls hl
      replace hm : f_Mo_mends_59_b M_fill M_half M_logarithms M_powers (f_Mo_mends_59 M_fill M_half M_logarithms M_powers n59) x1 x2 x3 M_system M_solved M_values M_word M_wrong = some (rr, M_system', M_solved', M_values', M_word', M_wrong') := hm
      unfold f_Mo_mends_59_b at hm
      refine lv_iload_n hx hb d_Mo_mends_59 rfl (lv_at hl 3 rfl) ?_
      refine lv_aload_n hx hb d_Mo_mends_60 rfl (lv_at hl 0 rfl) ?_
      obtain ⟨r39, hu, hm⟩ := bd_el hm
      replace hm := nm_1 hm
      refine z_cVi (wc := w_Mo_wordSize cI cJ qM M_thrown M_depth (.int M_half) M_pattern M_craft M_begins M_firsts M_seconds (.ref qM_powers) (.ref qM_logarithms) M_forms M_elements M_mixer M_data M_waiting M_master M_counts M_line M_length M_sent M_state M_places M_least M_row M_rowSize M_differ M_blocks M_marks M_wrongs M_bytes M_rights M_tells M_lastMaster M_lastCounts (.ref qM_word) (.ref qM_values) (.ref qM_system) (.ref qM_solved) (.ref qM_wrong) M_fill) (wc' := w_Mo_wordSize cI cJ qM M_thrown M_depth (.int M_half) M_pattern M_craft M_begins M_firsts M_seconds (.ref qM_powers) (.ref qM_logarithms) M_forms M_elements M_mixer M_data M_waiting M_master M_counts M_line M_length M_sent M_state M_places M_least M_row M_rowSize M_differ M_blocks M_marks M_wrongs M_bytes M_rights M_tells M_lastMaster M_lastCounts (.ref qM_word) (.ref qM_values) (.ref qM_system) (.ref qM_solved) (.ref qM_wrong) M_fill) (wr := [(qM_system, .inl (cI, 1056, .inl M_system)), (qM_solved, .inl (cI, 32, .inl M_solved)), (qM_logarithms, .inl (cI, 256, .inl M_logarithms)), (qM_powers, .inl (cI, 255, .inl M_powers)), (qM_values, .inl (cI, 32, .inl M_values)), (qM_word, .inl (cI, 255, .inl M_word)), (qM_wrong, .inl (cI, 16, .inl M_wrong))]) (As := []) (rest := [.int x3]) (c_Mo_wordSize l D cI cJ tt qM M_thrown M_depth (.int M_half) M_pattern M_craft M_begins M_firsts M_seconds (.ref qM_powers) (.ref qM_logarithms) M_forms M_elements M_mixer M_data M_waiting M_master M_counts M_line M_length M_sent M_state M_places M_least M_row M_rowSize M_differ M_blocks M_marks M_wrongs M_bytes M_rights M_tells M_lastMaster M_lastCounts (.ref qM_word) (.ref qM_values) (.ref qM_system) (.ref qM_solved) (.ref qM_wrong) _ M_fill r39 hu) F ok_Mo_wordSize rfl k_1030 hK hE hP hD hS hA [0] [1, 2, 3, 4, 5, 6, 7] rfl rfl (by decide) (by decide) (by decide) 0 rfl rfl rfl ⟨rfl, rfl, Nat.le_of_ble_eq_true rfl, Nat.le_of_ble_eq_true rfl⟩ ⟨Nat.zero_le _, Nat.zero_le _⟩ rfl hl.1 rfl (Nat.le_of_ble_eq_true rfl) d_Mo_mends_61 (fun H locs hP hD hS => ?_)
      have hP : va_P D classes (w_Mo_mends cI cJ qM qM_system qM_solved qM_logarithms qM_powers qM_values qM_word qM_wrong M_thrown M_depth M_pattern M_craft M_begins M_firsts M_seconds M_forms M_elements M_mixer M_data M_waiting M_master M_counts M_line M_length M_sent M_state M_places M_least M_row M_rowSize M_differ M_blocks M_marks M_wrongs M_bytes M_rights M_tells M_lastMaster M_lastCounts M_fill M_half M_system M_solved M_logarithms M_powers M_values M_word M_wrong) H := hP.sub [7, 0, 1, 2, 3, 4, 5, 6] rfl
      have hD : va_D A (w_Mo_mends cI cJ qM qM_system qM_solved qM_logarithms qM_powers qM_values qM_word qM_wrong M_thrown M_depth M_pattern M_craft M_begins M_firsts M_seconds M_forms M_elements M_mixer M_data M_waiting M_master M_counts M_line M_length M_sent M_state M_places M_least M_row M_rowSize M_differ M_blocks M_marks M_wrongs M_bytes M_rights M_tells M_lastMaster M_lastCounts M_fill M_half M_system M_solved M_logarithms M_powers M_values M_word M_wrong) := hD.sub [7, 0, 1, 2, 3, 4, 5, 6] (by decide) rfl
      refine z_if hm (lv_icmp_ge (tgt := 139) hx hb d_Mo_mends_64 (by decide)) (fun hm => ?_) (fun hm => ?_)
      · exact T139 x1 x2 M_system M_solved M_values M_word M_wrong hm _ _ hP hD hS _ (lv_sub hl [0, 1, 2] rfl)
      · refine lv_aload_n hx hb d_Mo_mends_67 rfl (lv_at hl 0 rfl) ?_
        refine lv_iload_n hx hb d_Mo_mends_68 rfl (lv_at hl 3 rfl) ?_
        obtain ⟨r41, hu, hm⟩ := bd_el hm
        replace hm := nm_1 hm
        refine z_cVi (wc := w_Mo_ofG cI cJ qM qM_powers M_thrown M_depth (.int M_fill) (.int M_half) M_pattern M_craft M_begins M_firsts M_seconds (.ref qM_logarithms) M_forms M_elements M_mixer M_data M_waiting M_master M_counts M_line M_length M_sent M_state M_places M_least M_row M_rowSize M_differ M_blocks M_marks M_wrongs M_bytes M_rights M_tells M_lastMaster M_lastCounts (.ref qM_word) (.ref qM_values) (.ref qM_system) (.ref qM_solved) (.ref qM_wrong) M_powers) (wc' := w_Mo_ofG cI cJ qM qM_powers M_thrown M_depth (.int M_fill) (.int M_half) M_pattern M_craft M_begins M_firsts M_seconds (.ref qM_logarithms) M_forms M_elements M_mixer M_data M_waiting M_master M_counts M_line M_length M_sent M_state M_places M_least M_row M_rowSize M_differ M_blocks M_marks M_wrongs M_bytes M_rights M_tells M_lastMaster M_lastCounts (.ref qM_word) (.ref qM_values) (.ref qM_system) (.ref qM_solved) (.ref qM_wrong) M_powers) (wr := [(qM_system, .inl (cI, 1056, .inl M_system)), (qM_solved, .inl (cI, 32, .inl M_solved)), (qM_logarithms, .inl (cI, 256, .inl M_logarithms)), (qM_values, .inl (cI, 32, .inl M_values)), (qM_word, .inl (cI, 255, .inl M_word)), (qM_wrong, .inl (cI, 16, .inl M_wrong))]) (As := [.int x3]) (rest := []) (c_Mo_ofG l D cI cJ tt qM qM_powers M_thrown M_depth (.int M_fill) (.int M_half) M_pattern M_craft M_begins M_firsts M_seconds (.ref qM_logarithms) M_forms M_elements M_mixer M_data M_waiting M_master M_counts M_line M_length M_sent M_state M_places M_least M_row M_rowSize M_differ M_blocks M_marks M_wrongs M_bytes M_rights M_tells M_lastMaster M_lastCounts (.ref qM_word) (.ref qM_values) (.ref qM_system) (.ref qM_solved) (.ref qM_wrong) _ M_powers x3 r41 hu) F ok_Mo_ofG rfl k_1086 hK hE hP hD hS hA [0, 4] [1, 2, 3, 5, 6, 7] rfl rfl (by decide) (by decide) (by decide) 0 rfl rfl rfl ⟨rfl, rfl, Nat.le_of_ble_eq_true rfl, Nat.le_of_ble_eq_true rfl⟩ ⟨Nat.zero_le _, Nat.zero_le _⟩ rfl hl.1 rfl (Nat.le_of_ble_eq_true rfl) d_Mo_mends_69 (fun H locs hP hD hS => ?_)
        have hP : va_P D classes (w_Mo_mends cI cJ qM qM_system qM_solved qM_logarithms qM_powers qM_values qM_word qM_wrong M_thrown M_depth M_pattern M_craft M_begins M_firsts M_seconds M_forms M_elements M_mixer M_data M_waiting M_master M_counts M_line M_length M_sent M_state M_places M_least M_row M_rowSize M_differ M_blocks M_marks M_wrongs M_bytes M_rights M_tells M_lastMaster M_lastCounts M_fill M_half M_system M_solved M_logarithms M_powers M_values M_word M_wrong) H := hP.sub [6, 0, 1, 2, 7, 3, 4, 5] rfl
        have hD : va_D A (w_Mo_mends cI cJ qM qM_system qM_solved qM_logarithms qM_powers qM_values qM_word qM_wrong M_thrown M_depth M_pattern M_craft M_begins M_firsts M_seconds M_forms M_elements M_mixer M_data M_waiting M_master M_counts M_line M_length M_sent M_state M_places M_least M_row M_rowSize M_differ M_blocks M_marks M_wrongs M_bytes M_rights M_tells M_lastMaster M_lastCounts M_fill M_half M_system M_solved M_logarithms M_powers M_values M_word M_wrong) := hD.sub [6, 0, 1, 2, 7, 3, 4, 5] (by decide) rfl
        refine lv_istore (lv' := [(4, .int r41), (0, .ref qM), (1, .int x1), (2, .int x2), (3, .int x3)]) hx hb d_Mo_mends_72 hl (by decide) rfl (fun ls hl => ?_)
        refine lv_iconst (v := (1 : Int32)) hx hb d_Mo_mends_74 (by decide) ?_
        refine lv_istore (lv' := [(5, .int (1 : Int32)), (4, .int r41), (0, .ref qM), (1, .int x1), (2, .int x2), (3, .int x3)]) hx hb d_Mo_mends_75 hl (by decide) rfl (fun ls hl => ?_)
        refine lv_iload_n hx hb d_Mo_mends_77 rfl (lv_at hl 3 rfl) ?_
        refine lv_iconst (v := (1 : Int32)) hx hb d_Mo_mends_78 (by decide) ?_
        refine lv_isub hx hb d_Mo_mends_79 ?_
        refine z_nmi hm (fun v43 hm => ?_)
        refine lv_istore (lv' := [(6, .int v43), (5, .int (1 : Int32)), (4, .int r41), (0, .ref qM), (1, .int x1), (2, .int x2), (3, .int x3)]) hx hb d_Mo_mends_80 hl (by decide) rfl (fun ls hl => ?_)
        exact T82 10000 x1 x2 x3 r41 (1 : Int32) v43 M_system M_solved M_values M_word M_wrong hm _ _ hP hD hS _ (lv_sub hl [3, 4, 5, 6, 2, 1, 0] rfl)
  have T45 : ∀ (x1 : Int32) (M_system : Nat → Int32) (M_solved : Nat → Int32) (M_values : Nat → Int32) (M_word : Nat → Int32) (M_wrong : Nat → Int32), f_Mo_mends_45 M_fill M_half M_logarithms M_powers x1 M_system M_solved M_values M_word M_wrong = some (rr, M_system', M_solved', M_values', M_word', M_wrong') → ∀ (H : Heap) (locs : List Loc), va_P D classes (w_Mo_mends cI cJ qM qM_system qM_solved qM_logarithms qM_powers qM_values qM_word qM_wrong M_thrown M_depth M_pattern M_craft M_begins M_firsts M_seconds M_forms M_elements M_mixer M_data M_waiting M_master M_counts M_line M_length M_sent M_state M_places M_least M_row M_rowSize M_differ M_blocks M_marks M_wrongs M_bytes M_rights M_tells M_lastMaster M_lastCounts M_fill M_half M_system M_solved M_logarithms M_powers M_values M_word M_wrong) H → va_D A (w_Mo_mends cI cJ qM qM_system qM_solved qM_logarithms qM_powers qM_values qM_word qM_wrong M_thrown M_depth M_pattern M_craft M_begins M_firsts M_seconds M_forms M_elements M_mixer M_data M_waiting M_master M_counts M_line M_length M_sent M_state M_places M_least M_row M_rowSize M_differ M_blocks M_marks M_wrongs M_bytes M_rights M_tells M_lastMaster M_lastCounts M_fill M_half M_system M_solved M_logarithms M_powers M_values M_word M_wrong) → va_S A s.heap H locs → ∀ (ls : Array Slot), lv_has ls 7 [(0, .ref qM), (1, .int x1)] → W p l e (RM 2 49) s m args below meth c H locs 0 0 Q0 (F0 m 45 ls []) := by
    intro x1 M_system M_solved M_values M_word M_wrong hm H locs hP hD hS ls hl
    unfold f_Mo_mends_45 at hm
    refine lv_aload_n hx hb d_Mo_mends_45 rfl (lv_at hl 0 rfl) ?_
    refine lv_iload_n hx hb d_Mo_mends_46 rfl (lv_at hl 1 rfl) ?_
    obtain ⟨⟨r44, g45, g46⟩, hu, hm⟩ := bd_el hm
    replace hm := nm_3 hm
    refine z_cVi (wc := w_Mo_solves cI cJ qM qM_system qM_solved qM_logarithms qM_powers M_thrown M_depth (.int M_fill) (.int M_half) M_pattern M_craft M_begins M_firsts M_seconds M_forms M_elements M_mixer M_data M_waiting M_master M_counts M_line M_length M_sent M_state M_places M_least M_row M_rowSize M_differ M_blocks M_marks M_wrongs M_bytes M_rights M_tells M_lastMaster M_lastCounts (.ref qM_word) (.ref qM_values) (.ref qM_wrong) M_system M_solved M_logarithms M_powers) (wc' := w_Mo_solves cI cJ qM qM_system qM_solved qM_logarithms qM_powers M_thrown M_depth (.int M_fill) (.int M_half) M_pattern M_craft M_begins M_firsts M_seconds M_forms M_elements M_mixer M_data M_waiting M_master M_counts M_line M_length M_sent M_state M_places M_least M_row M_rowSize M_differ M_blocks M_marks M_wrongs M_bytes M_rights M_tells M_lastMaster M_lastCounts (.ref qM_word) (.ref qM_values) (.ref qM_wrong) g45 g46 M_logarithms M_powers) (wr := [(qM_values, .inl (cI, 32, .inl M_values)), (qM_word, .inl (cI, 255, .inl M_word)), (qM_wrong, .inl (cI, 16, .inl M_wrong))]) (As := [.int x1]) (rest := []) (c_Mo_solves l D cI cJ tt qM qM_system qM_solved qM_logarithms qM_powers M_thrown M_depth (.int M_fill) (.int M_half) M_pattern M_craft M_begins M_firsts M_seconds M_forms M_elements M_mixer M_data M_waiting M_master M_counts M_line M_length M_sent M_state M_places M_least M_row M_rowSize M_differ M_blocks M_marks M_wrongs M_bytes M_rights M_tells M_lastMaster M_lastCounts (.ref qM_word) (.ref qM_values) (.ref qM_wrong) _ M_system M_solved M_logarithms M_powers x1 r44 g45 g46 hu) F ok_Mo_solves rfl k_1094 hK hE hP hD hS hA [0, 1, 2, 3, 4] [5, 6, 7] rfl rfl (by decide) (by decide) (by decide) 0 rfl rfl rfl ⟨rfl, rfl, Nat.le_of_ble_eq_true rfl, Nat.le_of_ble_eq_true rfl⟩ ⟨Nat.zero_le _, Nat.zero_le _⟩ rfl hl.1 rfl (Nat.le_of_ble_eq_true rfl) d_Mo_mends_47 (fun H locs hP hD hS => ?_)
    have hP : va_P D classes (w_Mo_mends cI cJ qM qM_system qM_solved qM_logarithms qM_powers qM_values qM_word qM_wrong M_thrown M_depth M_pattern M_craft M_begins M_firsts M_seconds M_forms M_elements M_mixer M_data M_waiting M_master M_counts M_line M_length M_sent M_state M_places M_least M_row M_rowSize M_differ M_blocks M_marks M_wrongs M_bytes M_rights M_tells M_lastMaster M_lastCounts M_fill M_half g45 g46 M_logarithms M_powers M_values M_word M_wrong) H := hP.sub [3, 4, 5, 6, 7, 0, 1, 2] rfl
    have hD : va_D A (w_Mo_mends cI cJ qM qM_system qM_solved qM_logarithms qM_powers qM_values qM_word qM_wrong M_thrown M_depth M_pattern M_craft M_begins M_firsts M_seconds M_forms M_elements M_mixer M_data M_waiting M_master M_counts M_line M_length M_sent M_state M_places M_least M_row M_rowSize M_differ M_blocks M_marks M_wrongs M_bytes M_rights M_tells M_lastMaster M_lastCounts M_fill M_half g45 g46 M_logarithms M_powers M_values M_word M_wrong) := hD.sub [3, 4, 5, 6, 7, 0, 1, 2] (by decide) rfl
    refine z_ifn hm (lv_if_ne (tgt := 55) hx hb d_Mo_mends_50 (by decide)) (fun hm => ?_) (fun hm => ?_)
    · refine lv_iconst (v := (0 : Int32)) hx hb d_Mo_mends_53 (by decide) ?_
      obtain ⟨hz, hm⟩ := zb_el hm
      cases hm
      exact z_qo hQ (z_iretz hz hr hx hb hlocks hK hP hD hS d_Mo_mends_54)
    · refine lv_iconst (v := (0 : Int32)) hx hb d_Mo_mends_55 (by decide) ?_
      refine lv_istore_n (lv' := [(2, .int (0 : Int32)), (0, .ref qM), (1, .int x1)]) hx hb d_Mo_mends_56 rfl hl (by decide) rfl (fun ls hl => ?_)
      refine lv_iconst (v := (0 : Int32)) hx hb d_Mo_mends_57 (by decide) ?_
      refine lv_istore_n (lv' := [(3, .int (0 : Int32)), (2, .int (0 : Int32)), (0, .ref qM), (1, .int x1)]) hx hb d_Mo_mends_58 rfl hl (by decide) rfl (fun ls hl => ?_)
      exact T59 10000 x1 (0 : Int32) (0 : Int32) g45 g46 M_values M_word M_wrong hm _ _ hP hD hS _ (lv_sub hl [2, 3, 1, 0] rfl)
  have T2 : ∀ (n2 : Nat) (x1 : Int32) (x2 : Int32) (M_system : Nat → Int32) (M_solved : Nat → Int32) (M_values : Nat → Int32) (M_word : Nat → Int32) (M_wrong : Nat → Int32), f_Mo_mends_2 M_fill M_half M_logarithms M_powers n2 x1 x2 M_system M_solved M_values M_word M_wrong = some (rr, M_system', M_solved', M_values', M_word', M_wrong') → ∀ (H : Heap) (locs : List Loc), va_P D classes (w_Mo_mends cI cJ qM qM_system qM_solved qM_logarithms qM_powers qM_values qM_word qM_wrong M_thrown M_depth M_pattern M_craft M_begins M_firsts M_seconds M_forms M_elements M_mixer M_data M_waiting M_master M_counts M_line M_length M_sent M_state M_places M_least M_row M_rowSize M_differ M_blocks M_marks M_wrongs M_bytes M_rights M_tells M_lastMaster M_lastCounts M_fill M_half M_system M_solved M_logarithms M_powers M_values M_word M_wrong) H → va_D A (w_Mo_mends cI cJ qM qM_system qM_solved qM_logarithms qM_powers qM_values qM_word qM_wrong M_thrown M_depth M_pattern M_craft M_begins M_firsts M_seconds M_forms M_elements M_mixer M_data M_waiting M_master M_counts M_line M_length M_sent M_state M_places M_least M_row M_rowSize M_differ M_blocks M_marks M_wrongs M_bytes M_rights M_tells M_lastMaster M_lastCounts M_fill M_half M_system M_solved M_logarithms M_powers M_values M_word M_wrong) → va_S A s.heap H locs → ∀ (ls : Array Slot), lv_has ls 7 [(0, .ref qM), (1, .int x1), (2, .int x2)] → W p l e (RM 2 49) s m args below meth c H locs 0 0 Q0 (F0 m 2 ls []) := by
    intro n2
    induction n2 with
    | zero => intro x1 x2 M_system M_solved M_values M_word M_wrong hm; cases hm
    | succ n2 ih2 =>
      have T39 : ∀ (x1 : Int32) (x2 : Int32) (M_system : Nat → Int32) (M_solved : Nat → Int32) (M_values : Nat → Int32) (M_word : Nat → Int32) (M_wrong : Nat → Int32), f_Mo_mends_39 (f_Mo_mends_2 M_fill M_half M_logarithms M_powers n2) x1 x2 M_system M_solved M_values M_word M_wrong = some (rr, M_system', M_solved', M_values', M_word', M_wrong') → ∀ (H : Heap) (locs : List Loc), va_P D classes (w_Mo_mends cI cJ qM qM_system qM_solved qM_logarithms qM_powers qM_values qM_word qM_wrong M_thrown M_depth M_pattern M_craft M_begins M_firsts M_seconds M_forms M_elements M_mixer M_data M_waiting M_master M_counts M_line M_length M_sent M_state M_places M_least M_row M_rowSize M_differ M_blocks M_marks M_wrongs M_bytes M_rights M_tells M_lastMaster M_lastCounts M_fill M_half M_system M_solved M_logarithms M_powers M_values M_word M_wrong) H → va_D A (w_Mo_mends cI cJ qM qM_system qM_solved qM_logarithms qM_powers qM_values qM_word qM_wrong M_thrown M_depth M_pattern M_craft M_begins M_firsts M_seconds M_forms M_elements M_mixer M_data M_waiting M_master M_counts M_line M_length M_sent M_state M_places M_least M_row M_rowSize M_differ M_blocks M_marks M_wrongs M_bytes M_rights M_tells M_lastMaster M_lastCounts M_fill M_half M_system M_solved M_logarithms M_powers M_values M_word M_wrong) → va_S A s.heap H locs → ∀ (ls : Array Slot), lv_has ls 7 [(0, .ref qM), (1, .int x1), (2, .int x2)] → W p l e (RM 2 49) s m args below meth c H locs 0 0 Q0 (F0 m 39 ls []) := by
        intro x1 x2 M_system M_solved M_values M_word M_wrong hm H locs hP hD hS ls hl
        unfold f_Mo_mends_39 at hm
        obtain ⟨v48, ev, hm⟩ := nm_el hm
        refine lv_iinc (v := v48) (lv' := [(2, .int v48), (0, .ref qM), (1, .int x1)]) hx hb d_Mo_mends_39 hl (k := 2) rfl (by rw [ev]; rfl) (by decide) rfl (fun ls hl => ?_)
        refine lv_goto (tgt := 2) hx hb d_Mo_mends_42 (by decide) ?_
        exact ih2 x1 v48 M_system M_solved M_values M_word M_wrong hm _ _ hP hD hS _ (lv_sub hl [1, 2, 0] rfl)
      have T9 : ∀ (n9 : Nat) (x1 : Int32) (x2 : Int32) (x3 : Int32) (M_system : Nat → Int32) (M_solved : Nat → Int32) (M_values : Nat → Int32) (M_word : Nat → Int32) (M_wrong : Nat → Int32), f_Mo_mends_9 (f_Mo_mends_2 M_fill M_half M_logarithms M_powers n2) n9 x1 x2 x3 M_system M_solved M_values M_word M_wrong = some (rr, M_system', M_solved', M_values', M_word', M_wrong') → ∀ (H : Heap) (locs : List Loc), va_P D classes (w_Mo_mends cI cJ qM qM_system qM_solved qM_logarithms qM_powers qM_values qM_word qM_wrong M_thrown M_depth M_pattern M_craft M_begins M_firsts M_seconds M_forms M_elements M_mixer M_data M_waiting M_master M_counts M_line M_length M_sent M_state M_places M_least M_row M_rowSize M_differ M_blocks M_marks M_wrongs M_bytes M_rights M_tells M_lastMaster M_lastCounts M_fill M_half M_system M_solved M_logarithms M_powers M_values M_word M_wrong) H → va_D A (w_Mo_mends cI cJ qM qM_system qM_solved qM_logarithms qM_powers qM_values qM_word qM_wrong M_thrown M_depth M_pattern M_craft M_begins M_firsts M_seconds M_forms M_elements M_mixer M_data M_waiting M_master M_counts M_line M_length M_sent M_state M_places M_least M_row M_rowSize M_differ M_blocks M_marks M_wrongs M_bytes M_rights M_tells M_lastMaster M_lastCounts M_fill M_half M_system M_solved M_logarithms M_powers M_values M_word M_wrong) → va_S A s.heap H locs → ∀ (ls : Array Slot), lv_has ls 7 [(0, .ref qM), (1, .int x1), (2, .int x2), (3, .int x3)] → W p l e (RM 2 49) s m args below meth c H locs 0 0 Q0 (F0 m 9 ls []) := by
        intro n9
        induction n9 with
        | zero => intro x1 x2 x3 M_system M_solved M_values M_word M_wrong hm; cases hm
        | succ n9 ih9 =>
          intro x1 x2 x3 M_system M_solved M_values M_word M_wrong hm H locs hP hD hS ls hl
          replace hm : f_Mo_mends_9_b (f_Mo_mends_2 M_fill M_half M_logarithms M_powers n2) (f_Mo_mends_9 (f_Mo_mends_2 M_fill M_half M_logarithms M_powers n2) n9) x1 x2 x3 M_system M_solved M_values M_word M_wrong = some (rr, M_system', M_solved', M_values', M_word', M_wrong') := hm
          unfold f_Mo_mends_9_b at hm
          refine lv_iload_n hx hb d_Mo_mends_9 rfl (lv_at hl 3 rfl) ?_
          refine lv_iload_n hx hb d_Mo_mends_10 rfl (lv_at hl 1 rfl) ?_
          refine z_if hm (lv_icmp_gt (tgt := 39) hx hb d_Mo_mends_11 (by decide)) (fun hm => ?_) (fun hm => ?_)
          · exact T39 x1 x2 M_system M_solved M_values M_word M_wrong hm _ _ hP hD hS _ (lv_sub hl [0, 1, 2] rfl)
          · refine lv_aload_n hx hb d_Mo_mends_14 rfl (lv_at hl 0 rfl) ?_
            refine va_get (D := D) (ci := 11) (v := .ref qM_system) (C := "DeepChannelModel") (T := fT_Mo) (N := 40) hx hb hts u_Mo hown hK hP 0 rfl rfl 37 (by decide) (hts _ k_923) (fun _ h9 => h9) rfl d_Mo_mends_15 ?_
            refine lv_bipush (v := (33 : Int32)) hx hb d_Mo_mends_18 (by decide) ?_
            refine lv_iload_n hx hb d_Mo_mends_20 rfl (lv_at hl 2 rfl) ?_
            refine lv_imul hx hb d_Mo_mends_21 ?_
            refine lv_iload_n hx hb d_Mo_mends_22 rfl (lv_at hl 3 rfl) ?_
            refine lv_iadd hx hb d_Mo_mends_23 ?_
            refine lv_aload_n hx hb d_Mo_mends_24 rfl (lv_at hl 0 rfl) ?_
            refine va_get (D := D) (ci := 11) (v := .ref qM_values) (C := "DeepChannelModel") (T := fT_Mo) (N := 40) hx hb hts u_Mo hown hK hP 0 rfl rfl 36 (by decide) (hts _ k_922) (fun _ h9 => h9) rfl d_Mo_mends_25 ?_
            refine lv_iload_n hx hb d_Mo_mends_28 rfl (lv_at hl 2 rfl) ?_
            refine lv_iload_n hx hb d_Mo_mends_29 rfl (lv_at hl 3 rfl) ?_
            refine lv_iadd hx hb d_Mo_mends_30 ?_
            refine z_iald hm hx hb hK hP 5 rfl d_Mo_mends_31 (fun v49 hm => ?_)
            refine z_iast hm hx hb hK hP hD hS 1 rfl d_Mo_mends_32 (fun g50 hm H locs hP hD hS => ?_)
            have hP : va_P D classes (w_Mo_mends cI cJ qM qM_system qM_solved qM_logarithms qM_powers qM_values qM_word qM_wrong M_thrown M_depth M_pattern M_craft M_begins M_firsts M_seconds M_forms M_elements M_mixer M_data M_waiting M_master M_counts M_line M_length M_sent M_state M_places M_least M_row M_rowSize M_differ M_blocks M_marks M_wrongs M_bytes M_rights M_tells M_lastMaster M_lastCounts M_fill M_half g50 M_solved M_logarithms M_powers M_values M_word M_wrong) H := hP
            have hD : va_D A (w_Mo_mends cI cJ qM qM_system qM_solved qM_logarithms qM_powers qM_values qM_word qM_wrong M_thrown M_depth M_pattern M_craft M_begins M_firsts M_seconds M_forms M_elements M_mixer M_data M_waiting M_master M_counts M_line M_length M_sent M_state M_places M_least M_row M_rowSize M_differ M_blocks M_marks M_wrongs M_bytes M_rights M_tells M_lastMaster M_lastCounts M_fill M_half g50 M_solved M_logarithms M_powers M_values M_word M_wrong) := hD
            obtain ⟨v51, ev, hm⟩ := nm_el hm
            refine lv_iinc (v := v51) (lv' := [(3, .int v51), (0, .ref qM), (1, .int x1), (2, .int x2)]) hx hb d_Mo_mends_33 hl (k := 3) rfl (by rw [ev]; rfl) (by decide) rfl (fun ls hl => ?_)
            refine lv_goto (tgt := 9) hx hb d_Mo_mends_36 (by decide) ?_
            exact ih9 x1 x2 v51 g50 M_solved M_values M_word M_wrong hm _ _ hP hD hS _ (lv_sub hl [1, 2, 3, 0] rfl)
      intro x1 x2 M_system M_solved M_values M_word M_wrong hm H locs hP hD hS ls hl
      replace hm : f_Mo_mends_2_b M_fill M_half M_logarithms M_powers (f_Mo_mends_2 M_fill M_half M_logarithms M_powers n2) x1 x2 M_system M_solved M_values M_word M_wrong = some (rr, M_system', M_solved', M_values', M_word', M_wrong') := hm
      unfold f_Mo_mends_2_b at hm
      refine lv_iload_n hx hb d_Mo_mends_2 rfl (lv_at hl 2 rfl) ?_
      refine lv_iload_n hx hb d_Mo_mends_3 rfl (lv_at hl 1 rfl) ?_
      refine z_if hm (lv_icmp_ge (tgt := 45) hx hb d_Mo_mends_4 (by decide)) (fun hm => ?_) (fun hm => ?_)
      · exact T45 x1 M_system M_solved M_values M_word M_wrong hm _ _ hP hD hS _ (lv_sub hl [0, 1] rfl)
      · refine lv_iconst (v := (0 : Int32)) hx hb d_Mo_mends_7 (by decide) ?_
        refine lv_istore_n (lv' := [(3, .int (0 : Int32)), (0, .ref qM), (1, .int x1), (2, .int x2)]) hx hb d_Mo_mends_8 rfl hl (by decide) rfl (fun ls hl => ?_)
        exact T9 10000 x1 x2 (0 : Int32) M_system M_solved M_values M_word M_wrong hm _ _ hP hD hS _ (lv_sub hl [1, 2, 3, 0] rfl)
  unfold f_Mo_mends at hm
  refine lv_iconst (v := (0 : Int32)) hx hb d_Mo_mends_0 (by decide) ?_
  refine lv_istore_n (lv' := [(2, .int (0 : Int32)), (0, .ref qM), (1, .int x1)]) hx hb d_Mo_mends_1 rfl hl (by decide) rfl (fun ls hl => ?_)
  exact T2 10000 x1 (0 : Int32) M_system M_solved M_values M_word M_wrong hm _ _ hP hD hS _ (lv_sub hl [1, 2, 0] rfl)
-- DeepChannelModel.takeWord(II)V
abbrev b_Mo_takeWord : ByteArray := prog_13_method_40_code
abbrev y_Mo_takeWord : MethodName := ⟨"DeepChannelModel", "takeWord", "(II)V"⟩
theorem d_Mo_takeWord_0 : decode b_Mo_takeWord 0 = .ok (.iconst 0, 1) := by decide +kernel
theorem d_Mo_takeWord_1 : decode b_Mo_takeWord 1 = .ok (.istore_n 3, 1) := by decide +kernel
theorem d_Mo_takeWord_2 : decode b_Mo_takeWord 2 = .ok (.iload_n 3, 1) := by decide +kernel
theorem d_Mo_takeWord_3 : decode b_Mo_takeWord 3 = .ok (.aload_n 0, 1) := by decide +kernel
theorem d_Mo_takeWord_4 : decode b_Mo_takeWord 4 = .ok (.invokevirtual 110, 3) := by decide +kernel
theorem d_Mo_takeWord_7 : decode b_Mo_takeWord 7 = .ok (.if_icmp .ge 35, 3) := by decide +kernel
theorem d_Mo_takeWord_10 : decode b_Mo_takeWord 10 = .ok (.aload_n 0, 1) := by decide +kernel
theorem d_Mo_takeWord_11 : decode b_Mo_takeWord 11 = .ok (.getfield 81, 3) := by decide +kernel
theorem d_Mo_takeWord_14 : decode b_Mo_takeWord 14 = .ok (.iload_n 3, 1) := by decide +kernel
theorem d_Mo_takeWord_15 : decode b_Mo_takeWord 15 = .ok (.aload_n 0, 1) := by decide +kernel
theorem d_Mo_takeWord_16 : decode b_Mo_takeWord 16 = .ok (.getfield 38, 3) := by decide +kernel
theorem d_Mo_takeWord_19 : decode b_Mo_takeWord 19 = .ok (.aload_n 0, 1) := by decide +kernel
theorem d_Mo_takeWord_20 : decode b_Mo_takeWord 20 = .ok (.getfield 69, 3) := by decide +kernel
theorem d_Mo_takeWord_23 : decode b_Mo_takeWord 23 = .ok (.iload_n 1, 1) := by decide +kernel
theorem d_Mo_takeWord_24 : decode b_Mo_takeWord 24 = .ok (.aload_n 0, 1) := by decide +kernel
theorem d_Mo_takeWord_25 : decode b_Mo_takeWord 25 = .ok (.getfield 7, 3) := by decide +kernel
theorem d_Mo_takeWord_28 : decode b_Mo_takeWord 28 = .ok (.iload_n 3, 1) := by decide +kernel
theorem d_Mo_takeWord_29 : decode b_Mo_takeWord 29 = .ok (.imul, 1) := by decide +kernel
theorem d_Mo_takeWord_30 : decode b_Mo_takeWord 30 = .ok (.iadd, 1) := by decide +kernel
theorem d_Mo_takeWord_31 : decode b_Mo_takeWord 31 = .ok (.iload_n 2, 1) := by decide +kernel
theorem d_Mo_takeWord_32 : decode b_Mo_takeWord 32 = .ok (.iadd, 1) := by decide +kernel
theorem d_Mo_takeWord_33 : decode b_Mo_takeWord 33 = .ok (.iaload, 1) := by decide +kernel
theorem d_Mo_takeWord_34 : decode b_Mo_takeWord 34 = .ok (.iaload, 1) := by decide +kernel
theorem d_Mo_takeWord_35 : decode b_Mo_takeWord 35 = .ok (.iastore, 1) := by decide +kernel
theorem d_Mo_takeWord_36 : decode b_Mo_takeWord 36 = .ok (.iinc 3 1, 3) := by decide +kernel
theorem d_Mo_takeWord_39 : decode b_Mo_takeWord 39 = .ok (.goto (-37), 3) := by decide +kernel
theorem d_Mo_takeWord_42 : decode b_Mo_takeWord 42 = .ok (.return_, 1) := by decide +kernel
theorem ok_Mo_takeWord : OKv y_Mo_takeWord b_Mo_takeWord 4 none "DeepChannelModel" 2 := ⟨k_1158, k_1157, k_38, k_55, by decide +kernel, by decide +kernel, by decide +kernel⟩
abbrev w_Mo_takeWord (cI cJ : ClassId) (qM qM_bytes qM_elements qM_word : Nat) (M_thrown M_half M_pattern M_craft M_begins M_firsts M_seconds M_powers M_logarithms M_forms M_mixer M_data M_waiting M_master M_counts M_line M_length M_sent M_state M_places M_least M_row M_rowSize M_differ M_blocks M_marks M_wrongs M_rights M_tells M_lastMaster M_lastCounts M_values M_system M_solved M_wrong : Value) (M_depth : Int32) (M_fill : Int32) (M_bytes : Nat → Int32) (M_elements : Nat → Int32) (M_word : Nat → Int32) : va_W := [(qM, .inr (11, [M_thrown, .int M_depth, .int M_fill, M_half, M_pattern, M_craft, M_begins, M_firsts, M_seconds, M_powers, M_logarithms, M_forms, .ref qM_elements, M_mixer, M_data, M_waiting, M_master, M_counts, M_line, M_length, M_sent, M_state, M_places, M_least, M_row, M_rowSize, M_differ, M_blocks, M_marks, M_wrongs, .ref qM_bytes, M_rights, M_tells, M_lastMaster, M_lastCounts, .ref qM_word, M_values, M_system, M_solved, M_wrong])), (qM_bytes, .inl (cI, 4000, .inl M_bytes)), (qM_elements, .inl (cI, 256, .inl M_elements)), (qM_word, .inl (cI, 255, .inl M_word))]
def f_Mo_takeWord_2_b (M_depth : Int32) (M_fill : Int32) (M_bytes : Nat → Int32) (M_elements : Nat → Int32) (kh2 : Int32 → Int32 → Int32 → (Nat → Int32) → Option ((Nat → Int32))) (x1 : Int32) (x2 : Int32) (x3 : Int32) (M_word : Nat → Int32) : Option ((Nat → Int32)) :=
  bd (f_Mo_wordSize M_fill) fun u2 =>
  nm u2 fun r1 =>
  if r1 ≤ x3 then
    some M_word
  else
  rdI M_bytes 4000 ((x1 + (M_depth * x3)) + x2) fun v3 =>
  rdI M_elements 256 v3 fun v4 =>
  wrI M_word 255 x3 v4 fun g5 =>
  nm (x3 + (1 : Int32)) fun v6 =>
  kh2 x1 x2 v6 g5
def f_Mo_takeWord_2 (M_depth : Int32) (M_fill : Int32) (M_bytes : Nat → Int32) (M_elements : Nat → Int32) : Nat → Int32 → Int32 → Int32 → (Nat → Int32) → Option ((Nat → Int32))
  | 0 => fun _ _ _ _ => none
  | n + 1 => fun x1 x2 x3 M_word => f_Mo_takeWord_2_b M_depth M_fill M_bytes M_elements (f_Mo_takeWord_2 M_depth M_fill M_bytes M_elements n) x1 x2 x3 M_word
def f_Mo_takeWord (M_depth : Int32) (M_fill : Int32) (M_bytes : Nat → Int32) (M_elements : Nat → Int32) (M_word : Nat → Int32) (x1 : Int32) (x2 : Int32) : Option ((Nat → Int32)) :=
  f_Mo_takeWord_2 M_depth M_fill M_bytes M_elements 10000 x1 x2 (0 : Int32) M_word
set_option maxHeartbeats 4000000 in
set_option maxRecDepth 100000 in
theorem c_Mo_takeWord (l : Launch) (D : va_G) (cI cJ : ClassId) (tt : Nat → Nat) (qM qM_bytes qM_elements qM_word : Nat) (M_thrown M_half M_pattern M_craft M_begins M_firsts M_seconds M_powers M_logarithms M_forms M_mixer M_data M_waiting M_master M_counts M_line M_length M_sent M_state M_places M_least M_row M_rowSize M_differ M_blocks M_marks M_wrongs M_rights M_tells M_lastMaster M_lastCounts M_values M_system M_solved M_wrong : Value) (sz : Nat) (M_depth : Int32) (M_fill : Int32) (M_bytes : Nat → Int32) (M_elements : Nat → Int32) (M_word : Nat → Int32) (x1 : Int32) (x2 : Int32) (M_word' : Nat → Int32) (hm : f_Mo_takeWord M_depth M_fill M_bytes M_elements M_word x1 x2 = some M_word') : CTv l y_Mo_takeWord b_Mo_takeWord 4 none (RM 1 20) D cI cJ tt [.ref qM, .int x1, .int x2] (w_Mo_takeWord cI cJ qM qM_bytes qM_elements qM_word M_thrown M_half M_pattern M_craft M_begins M_firsts M_seconds M_powers M_logarithms M_forms M_mixer M_data M_waiting M_master M_counts M_line M_length M_sent M_state M_places M_least M_row M_rowSize M_differ M_blocks M_marks M_wrongs M_rights M_tells M_lastMaster M_lastCounts M_values M_system M_solved M_wrong M_depth M_fill M_bytes M_elements M_word) (w_Mo_takeWord cI cJ qM qM_bytes qM_elements qM_word M_thrown M_half M_pattern M_craft M_begins M_firsts M_seconds M_powers M_logarithms M_forms M_mixer M_data M_waiting M_master M_counts M_line M_length M_sent M_state M_places M_least M_row M_rowSize M_differ M_blocks M_marks M_wrongs M_rights M_tells M_lastMaster M_lastCounts M_values M_system M_solved M_wrong M_depth M_fill M_bytes M_elements M_word') sz := by
  refine Met.ofW (cc := b_Mo_takeWord) (maxL := 4) (ret := none) (by decide) rfl ?_
  intro p e s m args below meth c s₁ B hml hv
  obtain ⟨hargs, hsz, hP, hK, hD0, hE⟩ := hv
  have hx := B.exec
  have hb := B.bytes
  have hr := B.returns
  have hts : ∀ w ∈ TB, w.before args s = true := z_mV s (atoms_spec (ws := WD y_Mo_takeWord b_Mo_takeWord 4 none) B.pre)
  have hown : s.vm.findClass "DeepChannelModel" = some m.cls := findClass_of_methodNamed B.named
  have hlocks := B.notSynchronized
  subst hsz
  have hD := hD0.self (sz := s.heap.size)
  generalize hAe : va_A (w_Mo_takeWord cI cJ qM qM_bytes qM_elements qM_word M_thrown M_half M_pattern M_craft M_begins M_firsts M_seconds M_powers M_logarithms M_forms M_mixer M_data M_waiting M_master M_counts M_line M_length M_sent M_state M_places M_least M_row M_rowSize M_differ M_blocks M_marks M_wrongs M_rights M_tells M_lastMaster M_lastCounts M_values M_system M_solved M_wrong M_depth M_fill M_bytes M_elements M_word) s.heap.size = A at hD hE ⊢
  have hA : ∀ q : Nat, s.heap.size ≤ q → A q := fun q h => by rw [← hAe]; exact Or.inr h
  have hS : va_S A s.heap s.heap [] := va_S.rf
  refine z_entry (vs := [.ref qM, .int x1, .int x2]) hargs (Nat.le_of_ble_eq_true rfl) (fun ls hl => ?_)
  have hl : lv_has ls 4 [(0, .ref qM), (1, .int x1), (2, .int x2)] := hl
  show W p l e (RM 1 20) s m args below meth c s.heap [] 0 0 _ _
  refine z_qi (fun Q0 hQ => ?_)
  have F : CallFix p m c b_Mo_takeWord 4 s args TB "DeepChannelModel" := ⟨hx, hb, hml, hown, hts⟩
  have T2 : ∀ (n2 : Nat) (x1 : Int32) (x2 : Int32) (x3 : Int32) (M_word : Nat → Int32), f_Mo_takeWord_2 M_depth M_fill M_bytes M_elements n2 x1 x2 x3 M_word = some M_word' → ∀ (H : Heap) (locs : List Loc), va_P D classes (w_Mo_takeWord cI cJ qM qM_bytes qM_elements qM_word M_thrown M_half M_pattern M_craft M_begins M_firsts M_seconds M_powers M_logarithms M_forms M_mixer M_data M_waiting M_master M_counts M_line M_length M_sent M_state M_places M_least M_row M_rowSize M_differ M_blocks M_marks M_wrongs M_rights M_tells M_lastMaster M_lastCounts M_values M_system M_solved M_wrong M_depth M_fill M_bytes M_elements M_word) H → va_D A (w_Mo_takeWord cI cJ qM qM_bytes qM_elements qM_word M_thrown M_half M_pattern M_craft M_begins M_firsts M_seconds M_powers M_logarithms M_forms M_mixer M_data M_waiting M_master M_counts M_line M_length M_sent M_state M_places M_least M_row M_rowSize M_differ M_blocks M_marks M_wrongs M_rights M_tells M_lastMaster M_lastCounts M_values M_system M_solved M_wrong M_depth M_fill M_bytes M_elements M_word) → va_S A s.heap H locs → ∀ (ls : Array Slot), lv_has ls 4 [(0, .ref qM), (1, .int x1), (2, .int x2), (3, .int x3)] → W p l e (RM 1 20) s m args below meth c H locs 0 0 Q0 (F0 m 2 ls []) := by
    intro n2
    induction n2 with
    | zero => intro x1 x2 x3 M_word hm; cases hm
    | succ n2 ih2 =>
      intro x1 x2 x3 M_word hm H locs hP hD hS ls hl
      replace hm : f_Mo_takeWord_2_b M_depth M_fill M_bytes M_elements (f_Mo_takeWord_2 M_depth M_fill M_bytes M_elements n2) x1 x2 x3 M_word = some M_word' := hm
      unfold f_Mo_takeWord_2_b at hm
      refine lv_iload_n hx hb d_Mo_takeWord_2 rfl (lv_at hl 3 rfl) ?_
      refine lv_aload_n hx hb d_Mo_takeWord_3 rfl (lv_at hl 0 rfl) ?_
      obtain ⟨r1, hu, hm⟩ := bd_el hm
      replace hm := nm_1 hm
      refine z_cVi (wc := w_Mo_wordSize cI cJ qM M_thrown (.int M_depth) M_half M_pattern M_craft M_begins M_firsts M_seconds M_powers M_logarithms M_forms (.ref qM_elements) M_mixer M_data M_waiting M_master M_counts M_line M_length M_sent M_state M_places M_least M_row M_rowSize M_differ M_blocks M_marks M_wrongs (.ref qM_bytes) M_rights M_tells M_lastMaster M_lastCounts (.ref qM_word) M_values M_system M_solved M_wrong M_fill) (wc' := w_Mo_wordSize cI cJ qM M_thrown (.int M_depth) M_half M_pattern M_craft M_begins M_firsts M_seconds M_powers M_logarithms M_forms (.ref qM_elements) M_mixer M_data M_waiting M_master M_counts M_line M_length M_sent M_state M_places M_least M_row M_rowSize M_differ M_blocks M_marks M_wrongs (.ref qM_bytes) M_rights M_tells M_lastMaster M_lastCounts (.ref qM_word) M_values M_system M_solved M_wrong M_fill) (wr := [(qM_bytes, .inl (cI, 4000, .inl M_bytes)), (qM_elements, .inl (cI, 256, .inl M_elements)), (qM_word, .inl (cI, 255, .inl M_word))]) (As := []) (rest := [.int x3]) (c_Mo_wordSize l D cI cJ tt qM M_thrown (.int M_depth) M_half M_pattern M_craft M_begins M_firsts M_seconds M_powers M_logarithms M_forms (.ref qM_elements) M_mixer M_data M_waiting M_master M_counts M_line M_length M_sent M_state M_places M_least M_row M_rowSize M_differ M_blocks M_marks M_wrongs (.ref qM_bytes) M_rights M_tells M_lastMaster M_lastCounts (.ref qM_word) M_values M_system M_solved M_wrong _ M_fill r1 hu) F ok_Mo_wordSize rfl k_1030 hK hE hP hD hS hA [0] [1, 2, 3] rfl rfl (by decide) (by decide) (by decide) 0 rfl rfl rfl ⟨rfl, rfl, Nat.le_of_ble_eq_true rfl, Nat.le_of_ble_eq_true rfl⟩ ⟨Nat.zero_le _, Nat.zero_le _⟩ rfl hl.1 rfl (Nat.le_of_ble_eq_true rfl) d_Mo_takeWord_4 (fun H locs hP hD hS => ?_)
      have hP : va_P D classes (w_Mo_takeWord cI cJ qM qM_bytes qM_elements qM_word M_thrown M_half M_pattern M_craft M_begins M_firsts M_seconds M_powers M_logarithms M_forms M_mixer M_data M_waiting M_master M_counts M_line M_length M_sent M_state M_places M_least M_row M_rowSize M_differ M_blocks M_marks M_wrongs M_rights M_tells M_lastMaster M_lastCounts M_values M_system M_solved M_wrong M_depth M_fill M_bytes M_elements M_word) H := hP.sub [3, 0, 1, 2] rfl
      have hD : va_D A (w_Mo_takeWord cI cJ qM qM_bytes qM_elements qM_word M_thrown M_half M_pattern M_craft M_begins M_firsts M_seconds M_powers M_logarithms M_forms M_mixer M_data M_waiting M_master M_counts M_line M_length M_sent M_state M_places M_least M_row M_rowSize M_differ M_blocks M_marks M_wrongs M_rights M_tells M_lastMaster M_lastCounts M_values M_system M_solved M_wrong M_depth M_fill M_bytes M_elements M_word) := hD.sub [3, 0, 1, 2] (by decide) rfl
      refine z_if hm (lv_icmp_ge (tgt := 42) hx hb d_Mo_takeWord_7 (by decide)) (fun hm => ?_) (fun hm => ?_)
      · cases hm
        exact z_qo hQ (z_vret hr hx hb hlocks hK hP hD hS d_Mo_takeWord_42)
      · refine lv_aload_n hx hb d_Mo_takeWord_10 rfl (lv_at hl 0 rfl) ?_
        refine va_get (D := D) (ci := 11) (v := .ref qM_word) (C := "DeepChannelModel") (T := fT_Mo) (N := 40) hx hb hts u_Mo hown hK hP 0 rfl rfl 35 (by decide) (hts _ k_921) (fun _ h9 => h9) rfl d_Mo_takeWord_11 ?_
        refine lv_iload_n hx hb d_Mo_takeWord_14 rfl (lv_at hl 3 rfl) ?_
        refine lv_aload_n hx hb d_Mo_takeWord_15 rfl (lv_at hl 0 rfl) ?_
        refine va_get (D := D) (ci := 11) (v := .ref qM_elements) (C := "DeepChannelModel") (T := fT_Mo) (N := 40) hx hb hts u_Mo hown hK hP 0 rfl rfl 12 (by decide) (hts _ k_898) (fun _ h9 => h9) rfl d_Mo_takeWord_16 ?_
        refine lv_aload_n hx hb d_Mo_takeWord_19 rfl (lv_at hl 0 rfl) ?_
        refine va_get (D := D) (ci := 11) (v := .ref qM_bytes) (C := "DeepChannelModel") (T := fT_Mo) (N := 40) hx hb hts u_Mo hown hK hP 0 rfl rfl 30 (by decide) (hts _ k_916) (fun _ h9 => h9) rfl d_Mo_takeWord_20 ?_
        refine lv_iload_n hx hb d_Mo_takeWord_23 rfl (lv_at hl 1 rfl) ?_
        refine lv_aload_n hx hb d_Mo_takeWord_24 rfl (lv_at hl 0 rfl) ?_
        refine va_get (D := D) (ci := 11) (v := .int M_depth) (C := "DeepChannelModel") (T := fT_Mo) (N := 40) hx hb hts u_Mo hown hK hP 0 rfl rfl 1 (by decide) (hts _ k_887) (fun _ h9 => h9) rfl d_Mo_takeWord_25 ?_
        refine lv_iload_n hx hb d_Mo_takeWord_28 rfl (lv_at hl 3 rfl) ?_
        refine lv_imul hx hb d_Mo_takeWord_29 ?_
        refine lv_iadd hx hb d_Mo_takeWord_30 ?_
        refine lv_iload_n hx hb d_Mo_takeWord_31 rfl (lv_at hl 2 rfl) ?_
        refine lv_iadd hx hb d_Mo_takeWord_32 ?_
        refine z_iald hm hx hb hK hP 1 rfl d_Mo_takeWord_33 (fun v3 hm => ?_)
        refine z_iald hm hx hb hK hP 2 rfl d_Mo_takeWord_34 (fun v4 hm => ?_)
        refine z_iast hm hx hb hK hP hD hS 3 rfl d_Mo_takeWord_35 (fun g5 hm H locs hP hD hS => ?_)
        have hP : va_P D classes (w_Mo_takeWord cI cJ qM qM_bytes qM_elements qM_word M_thrown M_half M_pattern M_craft M_begins M_firsts M_seconds M_powers M_logarithms M_forms M_mixer M_data M_waiting M_master M_counts M_line M_length M_sent M_state M_places M_least M_row M_rowSize M_differ M_blocks M_marks M_wrongs M_rights M_tells M_lastMaster M_lastCounts M_values M_system M_solved M_wrong M_depth M_fill M_bytes M_elements g5) H := hP
        have hD : va_D A (w_Mo_takeWord cI cJ qM qM_bytes qM_elements qM_word M_thrown M_half M_pattern M_craft M_begins M_firsts M_seconds M_powers M_logarithms M_forms M_mixer M_data M_waiting M_master M_counts M_line M_length M_sent M_state M_places M_least M_row M_rowSize M_differ M_blocks M_marks M_wrongs M_rights M_tells M_lastMaster M_lastCounts M_values M_system M_solved M_wrong M_depth M_fill M_bytes M_elements g5) := hD
        obtain ⟨v6, ev, hm⟩ := nm_el hm
        refine lv_iinc (v := v6) (lv' := [(3, .int v6), (0, .ref qM), (1, .int x1), (2, .int x2)]) hx hb d_Mo_takeWord_36 hl (k := 3) rfl (by rw [ev]; rfl) (by decide) rfl (fun ls hl => ?_)
        refine lv_goto (tgt := 2) hx hb d_Mo_takeWord_39 (by decide) ?_
        exact ih2 x1 x2 v6 g5 hm _ _ hP hD hS _ (lv_sub hl [1, 2, 3, 0] rfl)
  unfold f_Mo_takeWord at hm
  refine lv_iconst (v := (0 : Int32)) hx hb d_Mo_takeWord_0 (by decide) ?_
  refine lv_istore_n (lv' := [(3, .int (0 : Int32)), (0, .ref qM), (1, .int x1), (2, .int x2)]) hx hb d_Mo_takeWord_1 rfl hl (by decide) rfl (fun ls hl => ?_)
  exact T2 10000 x1 x2 (0 : Int32) M_word hm _ _ hP hD hS _ (lv_sub hl [1, 2, 3, 0] rfl)
-- DeepChannelModel.mend(II)I
abbrev b_Mo_mend : ByteArray := prog_13_method_41_code
abbrev y_Mo_mend : MethodName := ⟨"DeepChannelModel", "mend", "(II)I"⟩
theorem d_Mo_mend_0 : decode b_Mo_mend 0 = .ok (.aload_n 0, 1) := by decide +kernel
theorem d_Mo_mend_1 : decode b_Mo_mend 1 = .ok (.iload_n 1, 1) := by decide +kernel
theorem d_Mo_mend_2 : decode b_Mo_mend 2 = .ok (.iload_n 2, 1) := by decide +kernel
theorem d_Mo_mend_3 : decode b_Mo_mend 3 = .ok (.invokevirtual 219, 3) := by decide +kernel
theorem d_Mo_mend_6 : decode b_Mo_mend 6 = .ok (.aload_n 0, 1) := by decide +kernel
theorem d_Mo_mend_7 : decode b_Mo_mend 7 = .ok (.invokevirtual 181, 3) := by decide +kernel
theorem d_Mo_mend_10 : decode b_Mo_mend 10 = .ok (.istore_n 3, 1) := by decide +kernel
theorem d_Mo_mend_11 : decode b_Mo_mend 11 = .ok (.iconst 0, 1) := by decide +kernel
theorem d_Mo_mend_12 : decode b_Mo_mend 12 = .ok (.istore 4, 2) := by decide +kernel
theorem d_Mo_mend_14 : decode b_Mo_mend 14 = .ok (.iload_n 3, 1) := by decide +kernel
theorem d_Mo_mend_15 : decode b_Mo_mend 15 = .ok (.ifCond .ne 36, 3) := by decide +kernel
theorem d_Mo_mend_18 : decode b_Mo_mend 18 = .ok (.iload 4, 2) := by decide +kernel
theorem d_Mo_mend_20 : decode b_Mo_mend 20 = .ok (.aload_n 0, 1) := by decide +kernel
theorem d_Mo_mend_21 : decode b_Mo_mend 21 = .ok (.getfield 16, 3) := by decide +kernel
theorem d_Mo_mend_24 : decode b_Mo_mend 24 = .ok (.if_icmp .ge 27, 3) := by decide +kernel
theorem d_Mo_mend_27 : decode b_Mo_mend 27 = .ok (.iinc 4 1, 3) := by decide +kernel
theorem d_Mo_mend_30 : decode b_Mo_mend 30 = .ok (.aload_n 0, 1) := by decide +kernel
theorem d_Mo_mend_31 : decode b_Mo_mend 31 = .ok (.iload_n 1, 1) := by decide +kernel
theorem d_Mo_mend_32 : decode b_Mo_mend 32 = .ok (.iload_n 2, 1) := by decide +kernel
theorem d_Mo_mend_33 : decode b_Mo_mend 33 = .ok (.invokevirtual 219, 3) := by decide +kernel
theorem d_Mo_mend_36 : decode b_Mo_mend 36 = .ok (.aload_n 0, 1) := by decide +kernel
theorem d_Mo_mend_37 : decode b_Mo_mend 37 = .ok (.invokevirtual 181, 3) := by decide +kernel
theorem d_Mo_mend_40 : decode b_Mo_mend 40 = .ok (.istore_n 3, 1) := by decide +kernel
theorem d_Mo_mend_41 : decode b_Mo_mend 41 = .ok (.aload_n 0, 1) := by decide +kernel
theorem d_Mo_mend_42 : decode b_Mo_mend 42 = .ok (.iload 4, 2) := by decide +kernel
theorem d_Mo_mend_44 : decode b_Mo_mend 44 = .ok (.invokevirtual 222, 3) := by decide +kernel
theorem d_Mo_mend_47 : decode b_Mo_mend 47 = .ok (.istore_n 3, 1) := by decide +kernel
theorem d_Mo_mend_48 : decode b_Mo_mend 48 = .ok (.goto (-34), 3) := by decide +kernel
theorem d_Mo_mend_51 : decode b_Mo_mend 51 = .ok (.iconst 0, 1) := by decide +kernel
theorem d_Mo_mend_52 : decode b_Mo_mend 52 = .ok (.istore 5, 2) := by decide +kernel
theorem d_Mo_mend_54 : decode b_Mo_mend 54 = .ok (.iload 5, 2) := by decide +kernel
theorem d_Mo_mend_56 : decode b_Mo_mend 56 = .ok (.aload_n 0, 1) := by decide +kernel
theorem d_Mo_mend_57 : decode b_Mo_mend 57 = .ok (.invokevirtual 110, 3) := by decide +kernel
theorem d_Mo_mend_60 : decode b_Mo_mend 60 = .ok (.if_icmp .ge 41, 3) := by decide +kernel
theorem d_Mo_mend_63 : decode b_Mo_mend 63 = .ok (.iload_n 3, 1) := by decide +kernel
theorem d_Mo_mend_64 : decode b_Mo_mend 64 = .ok (.ifCond .eq 37, 3) := by decide +kernel
theorem d_Mo_mend_67 : decode b_Mo_mend 67 = .ok (.aload_n 0, 1) := by decide +kernel
theorem d_Mo_mend_68 : decode b_Mo_mend 68 = .ok (.getfield 69, 3) := by decide +kernel
theorem d_Mo_mend_71 : decode b_Mo_mend 71 = .ok (.iload_n 1, 1) := by decide +kernel
theorem d_Mo_mend_72 : decode b_Mo_mend 72 = .ok (.aload_n 0, 1) := by decide +kernel
theorem d_Mo_mend_73 : decode b_Mo_mend 73 = .ok (.getfield 7, 3) := by decide +kernel
theorem d_Mo_mend_76 : decode b_Mo_mend 76 = .ok (.iload 5, 2) := by decide +kernel
theorem d_Mo_mend_78 : decode b_Mo_mend 78 = .ok (.imul, 1) := by decide +kernel
theorem d_Mo_mend_79 : decode b_Mo_mend 79 = .ok (.iadd, 1) := by decide +kernel
theorem d_Mo_mend_80 : decode b_Mo_mend 80 = .ok (.iload_n 2, 1) := by decide +kernel
theorem d_Mo_mend_81 : decode b_Mo_mend 81 = .ok (.iadd, 1) := by decide +kernel
theorem d_Mo_mend_82 : decode b_Mo_mend 82 = .ok (.aload_n 0, 1) := by decide +kernel
theorem d_Mo_mend_83 : decode b_Mo_mend 83 = .ok (.getfield 35, 3) := by decide +kernel
theorem d_Mo_mend_86 : decode b_Mo_mend 86 = .ok (.aload_n 0, 1) := by decide +kernel
theorem d_Mo_mend_87 : decode b_Mo_mend 87 = .ok (.getfield 81, 3) := by decide +kernel
theorem d_Mo_mend_90 : decode b_Mo_mend 90 = .ok (.iload 5, 2) := by decide +kernel
theorem d_Mo_mend_92 : decode b_Mo_mend 92 = .ok (.iaload, 1) := by decide +kernel
theorem d_Mo_mend_93 : decode b_Mo_mend 93 = .ok (.iaload, 1) := by decide +kernel
theorem d_Mo_mend_94 : decode b_Mo_mend 94 = .ok (.iastore, 1) := by decide +kernel
theorem d_Mo_mend_95 : decode b_Mo_mend 95 = .ok (.iinc 5 1, 3) := by decide +kernel
theorem d_Mo_mend_98 : decode b_Mo_mend 98 = .ok (.goto (-44), 3) := by decide +kernel
theorem d_Mo_mend_101 : decode b_Mo_mend 101 = .ok (.iload_n 3, 1) := by decide +kernel
theorem d_Mo_mend_102 : decode b_Mo_mend 102 = .ok (.ifCond .eq 8, 3) := by decide +kernel
theorem d_Mo_mend_105 : decode b_Mo_mend 105 = .ok (.iload 4, 2) := by decide +kernel
theorem d_Mo_mend_107 : decode b_Mo_mend 107 = .ok (.goto 4, 3) := by decide +kernel
theorem d_Mo_mend_110 : decode b_Mo_mend 110 = .ok (.iconst (-1), 1) := by decide +kernel
theorem d_Mo_mend_111 : decode b_Mo_mend 111 = .ok (.ireturn, 1) := by decide +kernel
theorem ok_Mo_mend : OKv y_Mo_mend b_Mo_mend 6 (some .int) "DeepChannelModel" 2 := ⟨k_1154, k_1153, k_37, k_55, by decide +kernel, by decide +kernel, by decide +kernel⟩
abbrev w_Mo_mend (cI cJ : ClassId) (qM qM_bytes qM_elements qM_word qM_powers qM_values qM_logarithms qM_forms qM_system qM_solved qM_wrong : Nat) (M_thrown M_pattern M_craft M_begins M_firsts M_seconds M_mixer M_data M_waiting M_master M_counts M_line M_length M_sent M_state M_places M_least M_row M_rowSize M_differ M_blocks M_marks M_wrongs M_rights M_tells M_lastMaster M_lastCounts : Value) (M_depth : Int32) (M_fill : Int32) (M_half : Int32) (M_bytes : Nat → Int32) (M_elements : Nat → Int32) (M_word : Nat → Int32) (M_powers : Nat → Int32) (M_values : Nat → Int32) (M_logarithms : Nat → Int32) (M_forms : Nat → Int32) (M_system : Nat → Int32) (M_solved : Nat → Int32) (M_wrong : Nat → Int32) : va_W := [(qM, .inr (11, [M_thrown, .int M_depth, .int M_fill, .int M_half, M_pattern, M_craft, M_begins, M_firsts, M_seconds, .ref qM_powers, .ref qM_logarithms, .ref qM_forms, .ref qM_elements, M_mixer, M_data, M_waiting, M_master, M_counts, M_line, M_length, M_sent, M_state, M_places, M_least, M_row, M_rowSize, M_differ, M_blocks, M_marks, M_wrongs, .ref qM_bytes, M_rights, M_tells, M_lastMaster, M_lastCounts, .ref qM_word, .ref qM_values, .ref qM_system, .ref qM_solved, .ref qM_wrong])), (qM_bytes, .inl (cI, 4000, .inl M_bytes)), (qM_elements, .inl (cI, 256, .inl M_elements)), (qM_word, .inl (cI, 255, .inl M_word)), (qM_powers, .inl (cI, 255, .inl M_powers)), (qM_values, .inl (cI, 32, .inl M_values)), (qM_logarithms, .inl (cI, 256, .inl M_logarithms)), (qM_forms, .inl (cI, 256, .inl M_forms)), (qM_system, .inl (cI, 1056, .inl M_system)), (qM_solved, .inl (cI, 32, .inl M_solved)), (qM_wrong, .inl (cI, 16, .inl M_wrong))]
def f_Mo_mend_101  (x3 : Int32) (x4 : Int32) (M_bytes : Nat → Int32) (M_word : Nat → Int32) (M_values : Nat → Int32) (M_system : Nat → Int32) (M_solved : Nat → Int32) (M_wrong : Nat → Int32) : Option (Int32 × (Nat → Int32) × (Nat → Int32) × (Nat → Int32) × (Nat → Int32) × (Nat → Int32) × (Nat → Int32)) :=
  if x3 = 0 then
    some ((-1 : Int32), M_bytes, M_word, M_values, M_system, M_solved, M_wrong)
  else
  some (x4, M_bytes, M_word, M_values, M_system, M_solved, M_wrong)
def f_Mo_mend_54_b (M_depth : Int32) (M_fill : Int32) (M_forms : Nat → Int32) (kh54 : Int32 → Int32 → Int32 → Int32 → Int32 → (Nat → Int32) → (Nat → Int32) → (Nat → Int32) → (Nat → Int32) → (Nat → Int32) → (Nat → Int32) → Option (Int32 × (Nat → Int32) × (Nat → Int32) × (Nat → Int32) × (Nat → Int32) × (Nat → Int32) × (Nat → Int32))) (x1 : Int32) (x2 : Int32) (x3 : Int32) (x4 : Int32) (x5 : Int32) (M_bytes : Nat → Int32) (M_word : Nat → Int32) (M_values : Nat → Int32) (M_system : Nat → Int32) (M_solved : Nat → Int32) (M_wrong : Nat → Int32) : Option (Int32 × (Nat → Int32) × (Nat → Int32) × (Nat → Int32) × (Nat → Int32) × (Nat → Int32) × (Nat → Int32)) :=
  bd (f_Mo_wordSize M_fill) fun u2 =>
  nm u2 fun r1 =>
  if r1 ≤ x5 then
    f_Mo_mend_101 x3 x4 M_bytes M_word M_values M_system M_solved M_wrong
  else
  if x3 = 0 then
    f_Mo_mend_101 x3 x4 M_bytes M_word M_values M_system M_solved M_wrong
  else
  rdI M_word 255 x5 fun v3 =>
  rdI M_forms 256 v3 fun v4 =>
  wrI M_bytes 4000 ((x1 + (M_depth * x5)) + x2) v4 fun g5 =>
  nm (x5 + (1 : Int32)) fun v6 =>
  kh54 x1 x2 x3 x4 v6 g5 M_word M_values M_system M_solved M_wrong
def f_Mo_mend_54 (M_depth : Int32) (M_fill : Int32) (M_forms : Nat → Int32) : Nat → Int32 → Int32 → Int32 → Int32 → Int32 → (Nat → Int32) → (Nat → Int32) → (Nat → Int32) → (Nat → Int32) → (Nat → Int32) → (Nat → Int32) → Option (Int32 × (Nat → Int32) × (Nat → Int32) × (Nat → Int32) × (Nat → Int32) × (Nat → Int32) × (Nat → Int32))
  | 0 => fun _ _ _ _ _ _ _ _ _ _ _ => none
  | n + 1 => fun x1 x2 x3 x4 x5 M_bytes M_word M_values M_system M_solved M_wrong => f_Mo_mend_54_b M_depth M_fill M_forms (f_Mo_mend_54 M_depth M_fill M_forms n) x1 x2 x3 x4 x5 M_bytes M_word M_values M_system M_solved M_wrong
def f_Mo_mend_51 (M_depth : Int32) (M_fill : Int32) (M_forms : Nat → Int32) (x1 : Int32) (x2 : Int32) (x3 : Int32) (x4 : Int32) (M_bytes : Nat → Int32) (M_word : Nat → Int32) (M_values : Nat → Int32) (M_system : Nat → Int32) (M_solved : Nat → Int32) (M_wrong : Nat → Int32) : Option (Int32 × (Nat → Int32) × (Nat → Int32) × (Nat → Int32) × (Nat → Int32) × (Nat → Int32) × (Nat → Int32)) :=
  f_Mo_mend_54 M_depth M_fill M_forms 10000 x1 x2 x3 x4 (0 : Int32) M_bytes M_word M_values M_system M_solved M_wrong
def f_Mo_mend_14_b (M_depth : Int32) (M_fill : Int32) (M_half : Int32) (M_elements : Nat → Int32) (M_powers : Nat → Int32) (M_logarithms : Nat → Int32) (M_forms : Nat → Int32) (kh14 : Int32 → Int32 → Int32 → Int32 → (Nat → Int32) → (Nat → Int32) → (Nat → Int32) → (Nat → Int32) → (Nat → Int32) → (Nat → Int32) → Option (Int32 × (Nat → Int32) × (Nat → Int32) × (Nat → Int32) × (Nat → Int32) × (Nat → Int32) × (Nat → Int32))) (x1 : Int32) (x2 : Int32) (x3 : Int32) (x4 : Int32) (M_bytes : Nat → Int32) (M_word : Nat → Int32) (M_values : Nat → Int32) (M_system : Nat → Int32) (M_solved : Nat → Int32) (M_wrong : Nat → Int32) : Option (Int32 × (Nat → Int32) × (Nat → Int32) × (Nat → Int32) × (Nat → Int32) × (Nat → Int32) × (Nat → Int32)) :=
  if x3 = 0 then
    if M_half ≤ x4 then
      f_Mo_mend_51 M_depth M_fill M_forms x1 x2 x3 x4 M_bytes M_word M_values M_system M_solved M_wrong
    else
    nm (x4 + (1 : Int32)) fun v7 =>
    bd (f_Mo_takeWord M_depth M_fill M_bytes M_elements M_word x1 x2) fun u9 =>
    nm u9 fun g8 =>
    bd (f_Mo_isCodeword M_fill M_half M_powers M_values M_logarithms g8) fun u12 =>
    nm u12.1 fun r10 =>
    nm u12.2 fun g11 =>
    bd (f_Mo_mends M_fill M_half M_system M_solved M_logarithms M_powers g11 g8 M_wrong v7) fun u19 =>
    nm u19.1 fun r13 =>
    nm u19.2.1 fun g14 =>
    nm u19.2.2.1 fun g15 =>
    nm u19.2.2.2.1 fun g16 =>
    nm u19.2.2.2.2.1 fun g17 =>
    nm u19.2.2.2.2.2 fun g18 =>
    kh14 x1 x2 r13 v7 M_bytes g17 g16 g14 g15 g18
  else
  f_Mo_mend_51 M_depth M_fill M_forms x1 x2 x3 x4 M_bytes M_word M_values M_system M_solved M_wrong
def f_Mo_mend_14 (M_depth : Int32) (M_fill : Int32) (M_half : Int32) (M_elements : Nat → Int32) (M_powers : Nat → Int32) (M_logarithms : Nat → Int32) (M_forms : Nat → Int32) : Nat → Int32 → Int32 → Int32 → Int32 → (Nat → Int32) → (Nat → Int32) → (Nat → Int32) → (Nat → Int32) → (Nat → Int32) → (Nat → Int32) → Option (Int32 × (Nat → Int32) × (Nat → Int32) × (Nat → Int32) × (Nat → Int32) × (Nat → Int32) × (Nat → Int32))
  | 0 => fun _ _ _ _ _ _ _ _ _ _ => none
  | n + 1 => fun x1 x2 x3 x4 M_bytes M_word M_values M_system M_solved M_wrong => f_Mo_mend_14_b M_depth M_fill M_half M_elements M_powers M_logarithms M_forms (f_Mo_mend_14 M_depth M_fill M_half M_elements M_powers M_logarithms M_forms n) x1 x2 x3 x4 M_bytes M_word M_values M_system M_solved M_wrong
def f_Mo_mend (M_depth : Int32) (M_fill : Int32) (M_half : Int32) (M_bytes : Nat → Int32) (M_elements : Nat → Int32) (M_word : Nat → Int32) (M_powers : Nat → Int32) (M_values : Nat → Int32) (M_logarithms : Nat → Int32) (M_forms : Nat → Int32) (M_system : Nat → Int32) (M_solved : Nat → Int32) (M_wrong : Nat → Int32) (x1 : Int32) (x2 : Int32) : Option (Int32 × (Nat → Int32) × (Nat → Int32) × (Nat → Int32) × (Nat → Int32) × (Nat → Int32) × (Nat → Int32)) :=
  bd (f_Mo_takeWord M_depth M_fill M_bytes M_elements M_word x1 x2) fun u21 =>
  nm u21 fun g20 =>
  bd (f_Mo_isCodeword M_fill M_half M_powers M_values M_logarithms g20) fun u24 =>
  nm u24.1 fun r22 =>
  nm u24.2 fun g23 =>
  f_Mo_mend_14 M_depth M_fill M_half M_elements M_powers M_logarithms M_forms 10000 x1 x2 r22 (0 : Int32) M_bytes g20 g23 M_system M_solved M_wrong
set_option maxHeartbeats 4000000 in
set_option maxRecDepth 100000 in
theorem c_Mo_mend (l : Launch) (D : va_G) (cI cJ : ClassId) (tt : Nat → Nat) (qM qM_bytes qM_elements qM_word qM_powers qM_values qM_logarithms qM_forms qM_system qM_solved qM_wrong : Nat) (M_thrown M_pattern M_craft M_begins M_firsts M_seconds M_mixer M_data M_waiting M_master M_counts M_line M_length M_sent M_state M_places M_least M_row M_rowSize M_differ M_blocks M_marks M_wrongs M_rights M_tells M_lastMaster M_lastCounts : Value) (sz : Nat) (M_depth : Int32) (M_fill : Int32) (M_half : Int32) (M_bytes : Nat → Int32) (M_elements : Nat → Int32) (M_word : Nat → Int32) (M_powers : Nat → Int32) (M_values : Nat → Int32) (M_logarithms : Nat → Int32) (M_forms : Nat → Int32) (M_system : Nat → Int32) (M_solved : Nat → Int32) (M_wrong : Nat → Int32) (x1 : Int32) (x2 : Int32) (rr : Int32) (M_bytes' : Nat → Int32) (M_word' : Nat → Int32) (M_values' : Nat → Int32) (M_system' : Nat → Int32) (M_solved' : Nat → Int32) (M_wrong' : Nat → Int32) (hm : f_Mo_mend M_depth M_fill M_half M_bytes M_elements M_word M_powers M_values M_logarithms M_forms M_system M_solved M_wrong x1 x2 = some (rr, M_bytes', M_word', M_values', M_system', M_solved', M_wrong')) : CTi l y_Mo_mend b_Mo_mend 6 (some .int) (RM 3 75) D cI cJ tt [.ref qM, .int x1, .int x2] (w_Mo_mend cI cJ qM qM_bytes qM_elements qM_word qM_powers qM_values qM_logarithms qM_forms qM_system qM_solved qM_wrong M_thrown M_pattern M_craft M_begins M_firsts M_seconds M_mixer M_data M_waiting M_master M_counts M_line M_length M_sent M_state M_places M_least M_row M_rowSize M_differ M_blocks M_marks M_wrongs M_rights M_tells M_lastMaster M_lastCounts M_depth M_fill M_half M_bytes M_elements M_word M_powers M_values M_logarithms M_forms M_system M_solved M_wrong) (w_Mo_mend cI cJ qM qM_bytes qM_elements qM_word qM_powers qM_values qM_logarithms qM_forms qM_system qM_solved qM_wrong M_thrown M_pattern M_craft M_begins M_firsts M_seconds M_mixer M_data M_waiting M_master M_counts M_line M_length M_sent M_state M_places M_least M_row M_rowSize M_differ M_blocks M_marks M_wrongs M_rights M_tells M_lastMaster M_lastCounts M_depth M_fill M_half M_bytes' M_elements M_word' M_powers M_values' M_logarithms M_forms M_system' M_solved' M_wrong') sz rr := by
  refine Met.ofW (cc := b_Mo_mend) (maxL := 6) (ret := (some .int)) (by decide) rfl ?_
  intro p e s m args below meth c s₁ B hml hv
  obtain ⟨hargs, hsz, hP, hK, hD0, hE⟩ := hv
  have hx := B.exec
  have hb := B.bytes
  have hr := B.returns
  have hts : ∀ w ∈ TB, w.before args s = true := z_mV s (atoms_spec (ws := WD y_Mo_mend b_Mo_mend 6 (some .int)) B.pre)
  have hown : s.vm.findClass "DeepChannelModel" = some m.cls := findClass_of_methodNamed B.named
  have hlocks := B.notSynchronized
  subst hsz
  have hD := hD0.self (sz := s.heap.size)
  generalize hAe : va_A (w_Mo_mend cI cJ qM qM_bytes qM_elements qM_word qM_powers qM_values qM_logarithms qM_forms qM_system qM_solved qM_wrong M_thrown M_pattern M_craft M_begins M_firsts M_seconds M_mixer M_data M_waiting M_master M_counts M_line M_length M_sent M_state M_places M_least M_row M_rowSize M_differ M_blocks M_marks M_wrongs M_rights M_tells M_lastMaster M_lastCounts M_depth M_fill M_half M_bytes M_elements M_word M_powers M_values M_logarithms M_forms M_system M_solved M_wrong) s.heap.size = A at hD hE ⊢
  have hA : ∀ q : Nat, s.heap.size ≤ q → A q := fun q h => by rw [← hAe]; exact Or.inr h
  have hS : va_S A s.heap s.heap [] := va_S.rf
  refine z_entry (vs := [.ref qM, .int x1, .int x2]) hargs (Nat.le_of_ble_eq_true rfl) (fun ls hl => ?_)
  have hl : lv_has ls 6 [(0, .ref qM), (1, .int x1), (2, .int x2)] := hl
  show W p l e (RM 3 75) s m args below meth c s.heap [] 0 0 _ _
  refine z_qi (fun Q0 hQ => ?_)
  have F : CallFix p m c b_Mo_mend 6 s args TB "DeepChannelModel" := ⟨hx, hb, hml, hown, hts⟩
  have T101 : ∀ (x3 : Int32) (x4 : Int32) (M_bytes : Nat → Int32) (M_word : Nat → Int32) (M_values : Nat → Int32) (M_system : Nat → Int32) (M_solved : Nat → Int32) (M_wrong : Nat → Int32), f_Mo_mend_101 x3 x4 M_bytes M_word M_values M_system M_solved M_wrong = some (rr, M_bytes', M_word', M_values', M_system', M_solved', M_wrong') → ∀ (H : Heap) (locs : List Loc), va_P D classes (w_Mo_mend cI cJ qM qM_bytes qM_elements qM_word qM_powers qM_values qM_logarithms qM_forms qM_system qM_solved qM_wrong M_thrown M_pattern M_craft M_begins M_firsts M_seconds M_mixer M_data M_waiting M_master M_counts M_line M_length M_sent M_state M_places M_least M_row M_rowSize M_differ M_blocks M_marks M_wrongs M_rights M_tells M_lastMaster M_lastCounts M_depth M_fill M_half M_bytes M_elements M_word M_powers M_values M_logarithms M_forms M_system M_solved M_wrong) H → va_D A (w_Mo_mend cI cJ qM qM_bytes qM_elements qM_word qM_powers qM_values qM_logarithms qM_forms qM_system qM_solved qM_wrong M_thrown M_pattern M_craft M_begins M_firsts M_seconds M_mixer M_data M_waiting M_master M_counts M_line M_length M_sent M_state M_places M_least M_row M_rowSize M_differ M_blocks M_marks M_wrongs M_rights M_tells M_lastMaster M_lastCounts M_depth M_fill M_half M_bytes M_elements M_word M_powers M_values M_logarithms M_forms M_system M_solved M_wrong) → va_S A s.heap H locs → ∀ (ls : Array Slot), lv_has ls 6 [(3, .int x3), (4, .int x4)] → W p l e (RM 3 75) s m args below meth c H locs 0 0 Q0 (F0 m 101 ls []) := by
    intro x3 x4 M_bytes M_word M_values M_system M_solved M_wrong hm H locs hP hD hS ls hl
    unfold f_Mo_mend_101 at hm
    refine lv_iload_n hx hb d_Mo_mend_101 rfl (lv_at hl 0 rfl) ?_
    refine z_if hm (lv_if_eq (tgt := 110) hx hb d_Mo_mend_102 (by decide)) (fun hm => ?_) (fun hm => ?_)
    · refine lv_iconst (v := (-1 : Int32)) hx hb d_Mo_mend_110 (by decide) ?_
      cases hm
      exact z_qo hQ (z_ireti hr hx hb hlocks hK hP hD hS d_Mo_mend_111)
    · refine lv_iload hx hb d_Mo_mend_105 (lv_at hl 1 rfl) ?_
      refine lv_goto (tgt := 111) hx hb d_Mo_mend_107 (by decide) ?_
      cases hm
      exact z_qo hQ (z_ireti hr hx hb hlocks hK hP hD hS d_Mo_mend_111)
  have T54 : ∀ (n54 : Nat) (x1 : Int32) (x2 : Int32) (x3 : Int32) (x4 : Int32) (x5 : Int32) (M_bytes : Nat → Int32) (M_word : Nat → Int32) (M_values : Nat → Int32) (M_system : Nat → Int32) (M_solved : Nat → Int32) (M_wrong : Nat → Int32), f_Mo_mend_54 M_depth M_fill M_forms n54 x1 x2 x3 x4 x5 M_bytes M_word M_values M_system M_solved M_wrong = some (rr, M_bytes', M_word', M_values', M_system', M_solved', M_wrong') → ∀ (H : Heap) (locs : List Loc), va_P D classes (w_Mo_mend cI cJ qM qM_bytes qM_elements qM_word qM_powers qM_values qM_logarithms qM_forms qM_system qM_solved qM_wrong M_thrown M_pattern M_craft M_begins M_firsts M_seconds M_mixer M_data M_waiting M_master M_counts M_line M_length M_sent M_state M_places M_least M_row M_rowSize M_differ M_blocks M_marks M_wrongs M_rights M_tells M_lastMaster M_lastCounts M_depth M_fill M_half M_bytes M_elements M_word M_powers M_values M_logarithms M_forms M_system M_solved M_wrong) H → va_D A (w_Mo_mend cI cJ qM qM_bytes qM_elements qM_word qM_powers qM_values qM_logarithms qM_forms qM_system qM_solved qM_wrong M_thrown M_pattern M_craft M_begins M_firsts M_seconds M_mixer M_data M_waiting M_master M_counts M_line M_length M_sent M_state M_places M_least M_row M_rowSize M_differ M_blocks M_marks M_wrongs M_rights M_tells M_lastMaster M_lastCounts M_depth M_fill M_half M_bytes M_elements M_word M_powers M_values M_logarithms M_forms M_system M_solved M_wrong) → va_S A s.heap H locs → ∀ (ls : Array Slot), lv_has ls 6 [(0, .ref qM), (1, .int x1), (2, .int x2), (3, .int x3), (4, .int x4), (5, .int x5)] → W p l e (RM 3 75) s m args below meth c H locs 0 0 Q0 (F0 m 54 ls []) := by
    intro n54
    induction n54 with
    | zero => intro x1 x2 x3 x4 x5 M_bytes M_word M_values M_system M_solved M_wrong hm; cases hm
    | succ n54 ih54 =>
      intro x1 x2 x3 x4 x5 M_bytes M_word M_values M_system M_solved M_wrong hm H locs hP hD hS ls hl
      replace hm : f_Mo_mend_54_b M_depth M_fill M_forms (f_Mo_mend_54 M_depth M_fill M_forms n54) x1 x2 x3 x4 x5 M_bytes M_word M_values M_system M_solved M_wrong = some (rr, M_bytes', M_word', M_values', M_system', M_solved', M_wrong') := hm
      unfold f_Mo_mend_54_b at hm
      refine lv_iload hx hb d_Mo_mend_54 (lv_at hl 5 rfl) ?_
      refine lv_aload_n hx hb d_Mo_mend_56 rfl (lv_at hl 0 rfl) ?_
      obtain ⟨r1, hu, hm⟩ := bd_el hm
      replace hm := nm_1 hm
      refine z_cVi (wc := w_Mo_wordSize cI cJ qM M_thrown (.int M_depth) (.int M_half) M_pattern M_craft M_begins M_firsts M_seconds (.ref qM_powers) (.ref qM_logarithms) (.ref qM_forms) (.ref qM_elements) M_mixer M_data M_waiting M_master M_counts M_line M_length M_sent M_state M_places M_least M_row M_rowSize M_differ M_blocks M_marks M_wrongs (.ref qM_bytes) M_rights M_tells M_lastMaster M_lastCounts (.ref qM_word) (.ref qM_values) (.ref qM_system) (.ref qM_solved) (.ref qM_wrong) M_fill) (wc' := w_Mo_wordSize cI cJ qM M_thrown (.int M_depth) (.int M_half) M_pattern M_craft M_begins M_firsts M_seconds (.ref qM_powers) (.ref qM_logarithms) (.ref qM_forms) (.ref qM_elements) M_mixer M_data M_waiting M_master M_counts M_line M_length M_sent M_state M_places M_least M_row M_rowSize M_differ M_blocks M_marks M_wrongs (.ref qM_bytes) M_rights M_tells M_lastMaster M_lastCounts (.ref qM_word) (.ref qM_values) (.ref qM_system) (.ref qM_solved) (.ref qM_wrong) M_fill) (wr := [(qM_bytes, .inl (cI, 4000, .inl M_bytes)), (qM_elements, .inl (cI, 256, .inl M_elements)), (qM_word, .inl (cI, 255, .inl M_word)), (qM_powers, .inl (cI, 255, .inl M_powers)), (qM_values, .inl (cI, 32, .inl M_values)), (qM_logarithms, .inl (cI, 256, .inl M_logarithms)), (qM_forms, .inl (cI, 256, .inl M_forms)), (qM_system, .inl (cI, 1056, .inl M_system)), (qM_solved, .inl (cI, 32, .inl M_solved)), (qM_wrong, .inl (cI, 16, .inl M_wrong))]) (As := []) (rest := [.int x5]) (c_Mo_wordSize l D cI cJ tt qM M_thrown (.int M_depth) (.int M_half) M_pattern M_craft M_begins M_firsts M_seconds (.ref qM_powers) (.ref qM_logarithms) (.ref qM_forms) (.ref qM_elements) M_mixer M_data M_waiting M_master M_counts M_line M_length M_sent M_state M_places M_least M_row M_rowSize M_differ M_blocks M_marks M_wrongs (.ref qM_bytes) M_rights M_tells M_lastMaster M_lastCounts (.ref qM_word) (.ref qM_values) (.ref qM_system) (.ref qM_solved) (.ref qM_wrong) _ M_fill r1 hu) F ok_Mo_wordSize rfl k_1030 hK hE hP hD hS hA [0] [1, 2, 3, 4, 5, 6, 7, 8, 9, 10] rfl rfl (by decide) (by decide) (by decide) 0 rfl rfl rfl ⟨rfl, rfl, Nat.le_of_ble_eq_true rfl, Nat.le_of_ble_eq_true rfl⟩ ⟨Nat.zero_le _, Nat.zero_le _⟩ rfl hl.1 rfl (Nat.le_of_ble_eq_true rfl) d_Mo_mend_57 (fun H locs hP hD hS => ?_)
      have hP : va_P D classes (w_Mo_mend cI cJ qM qM_bytes qM_elements qM_word qM_powers qM_values qM_logarithms qM_forms qM_system qM_solved qM_wrong M_thrown M_pattern M_craft M_begins M_firsts M_seconds M_mixer M_data M_waiting M_master M_counts M_line M_length M_sent M_state M_places M_least M_row M_rowSize M_differ M_blocks M_marks M_wrongs M_rights M_tells M_lastMaster M_lastCounts M_depth M_fill M_half M_bytes M_elements M_word M_powers M_values M_logarithms M_forms M_system M_solved M_wrong) H := hP.sub [10, 0, 1, 2, 3, 4, 5, 6, 7, 8, 9] rfl
      have hD : va_D A (w_Mo_mend cI cJ qM qM_bytes qM_elements qM_word qM_powers qM_values qM_logarithms qM_forms qM_system qM_solved qM_wrong M_thrown M_pattern M_craft M_begins M_firsts M_seconds M_mixer M_data M_waiting M_master M_counts M_line M_length M_sent M_state M_places M_least M_row M_rowSize M_differ M_blocks M_marks M_wrongs M_rights M_tells M_lastMaster M_lastCounts M_depth M_fill M_half M_bytes M_elements M_word M_powers M_values M_logarithms M_forms M_system M_solved M_wrong) := hD.sub [10, 0, 1, 2, 3, 4, 5, 6, 7, 8, 9] (by decide) rfl
      refine z_if hm (lv_icmp_ge (tgt := 101) hx hb d_Mo_mend_60 (by decide)) (fun hm => ?_) (fun hm => ?_)
      · exact T101 x3 x4 M_bytes M_word M_values M_system M_solved M_wrong hm _ _ hP hD hS _ (lv_sub hl [3, 4] rfl)
      · refine lv_iload_n hx hb d_Mo_mend_63 rfl (lv_at hl 3 rfl) ?_
        refine z_if hm (lv_if_eq (tgt := 101) hx hb d_Mo_mend_64 (by decide)) (fun hm => ?_) (fun hm => ?_)
        · exact T101 x3 x4 M_bytes M_word M_values M_system M_solved M_wrong hm _ _ hP hD hS _ (lv_sub hl [3, 4] rfl)
        · refine lv_aload_n hx hb d_Mo_mend_67 rfl (lv_at hl 0 rfl) ?_
          refine va_get (D := D) (ci := 11) (v := .ref qM_bytes) (C := "DeepChannelModel") (T := fT_Mo) (N := 40) hx hb hts u_Mo hown hK hP 0 rfl rfl 30 (by decide) (hts _ k_916) (fun _ h9 => h9) rfl d_Mo_mend_68 ?_
          refine lv_iload_n hx hb d_Mo_mend_71 rfl (lv_at hl 1 rfl) ?_
          refine lv_aload_n hx hb d_Mo_mend_72 rfl (lv_at hl 0 rfl) ?_
          refine va_get (D := D) (ci := 11) (v := .int M_depth) (C := "DeepChannelModel") (T := fT_Mo) (N := 40) hx hb hts u_Mo hown hK hP 0 rfl rfl 1 (by decide) (hts _ k_887) (fun _ h9 => h9) rfl d_Mo_mend_73 ?_
          refine lv_iload hx hb d_Mo_mend_76 (lv_at hl 5 rfl) ?_
          refine lv_imul hx hb d_Mo_mend_78 ?_
          refine lv_iadd hx hb d_Mo_mend_79 ?_
          refine lv_iload_n hx hb d_Mo_mend_80 rfl (lv_at hl 2 rfl) ?_
          refine lv_iadd hx hb d_Mo_mend_81 ?_
          refine lv_aload_n hx hb d_Mo_mend_82 rfl (lv_at hl 0 rfl) ?_
          refine va_get (D := D) (ci := 11) (v := .ref qM_forms) (C := "DeepChannelModel") (T := fT_Mo) (N := 40) hx hb hts u_Mo hown hK hP 0 rfl rfl 11 (by decide) (hts _ k_897) (fun _ h9 => h9) rfl d_Mo_mend_83 ?_
          refine lv_aload_n hx hb d_Mo_mend_86 rfl (lv_at hl 0 rfl) ?_
          refine va_get (D := D) (ci := 11) (v := .ref qM_word) (C := "DeepChannelModel") (T := fT_Mo) (N := 40) hx hb hts u_Mo hown hK hP 0 rfl rfl 35 (by decide) (hts _ k_921) (fun _ h9 => h9) rfl d_Mo_mend_87 ?_
          refine lv_iload hx hb d_Mo_mend_90 (lv_at hl 5 rfl) ?_
          refine z_iald hm hx hb hK hP 3 rfl d_Mo_mend_92 (fun v3 hm => ?_)
          refine z_iald hm hx hb hK hP 7 rfl d_Mo_mend_93 (fun v4 hm => ?_)
          refine z_iast hm hx hb hK hP hD hS 1 rfl d_Mo_mend_94 (fun g5 hm H locs hP hD hS => ?_)
          have hP : va_P D classes (w_Mo_mend cI cJ qM qM_bytes qM_elements qM_word qM_powers qM_values qM_logarithms qM_forms qM_system qM_solved qM_wrong M_thrown M_pattern M_craft M_begins M_firsts M_seconds M_mixer M_data M_waiting M_master M_counts M_line M_length M_sent M_state M_places M_least M_row M_rowSize M_differ M_blocks M_marks M_wrongs M_rights M_tells M_lastMaster M_lastCounts M_depth M_fill M_half g5 M_elements M_word M_powers M_values M_logarithms M_forms M_system M_solved M_wrong) H := hP
          have hD : va_D A (w_Mo_mend cI cJ qM qM_bytes qM_elements qM_word qM_powers qM_values qM_logarithms qM_forms qM_system qM_solved qM_wrong M_thrown M_pattern M_craft M_begins M_firsts M_seconds M_mixer M_data M_waiting M_master M_counts M_line M_length M_sent M_state M_places M_least M_row M_rowSize M_differ M_blocks M_marks M_wrongs M_rights M_tells M_lastMaster M_lastCounts M_depth M_fill M_half g5 M_elements M_word M_powers M_values M_logarithms M_forms M_system M_solved M_wrong) := hD
          obtain ⟨v6, ev, hm⟩ := nm_el hm
          refine lv_iinc (v := v6) (lv' := [(5, .int v6), (0, .ref qM), (1, .int x1), (2, .int x2), (3, .int x3), (4, .int x4)]) hx hb d_Mo_mend_95 hl (k := 5) rfl (by rw [ev]; rfl) (by decide) rfl (fun ls hl => ?_)
          refine lv_goto (tgt := 54) hx hb d_Mo_mend_98 (by decide) ?_
          exact ih54 x1 x2 x3 x4 v6 g5 M_word M_values M_system M_solved M_wrong hm _ _ hP hD hS _ (lv_sub hl [1, 2, 3, 4, 5, 0] rfl)
  have T51 : ∀ (x1 : Int32) (x2 : Int32) (x3 : Int32) (x4 : Int32) (M_bytes : Nat → Int32) (M_word : Nat → Int32) (M_values : Nat → Int32) (M_system : Nat → Int32) (M_solved : Nat → Int32) (M_wrong : Nat → Int32), f_Mo_mend_51 M_depth M_fill M_forms x1 x2 x3 x4 M_bytes M_word M_values M_system M_solved M_wrong = some (rr, M_bytes', M_word', M_values', M_system', M_solved', M_wrong') → ∀ (H : Heap) (locs : List Loc), va_P D classes (w_Mo_mend cI cJ qM qM_bytes qM_elements qM_word qM_powers qM_values qM_logarithms qM_forms qM_system qM_solved qM_wrong M_thrown M_pattern M_craft M_begins M_firsts M_seconds M_mixer M_data M_waiting M_master M_counts M_line M_length M_sent M_state M_places M_least M_row M_rowSize M_differ M_blocks M_marks M_wrongs M_rights M_tells M_lastMaster M_lastCounts M_depth M_fill M_half M_bytes M_elements M_word M_powers M_values M_logarithms M_forms M_system M_solved M_wrong) H → va_D A (w_Mo_mend cI cJ qM qM_bytes qM_elements qM_word qM_powers qM_values qM_logarithms qM_forms qM_system qM_solved qM_wrong M_thrown M_pattern M_craft M_begins M_firsts M_seconds M_mixer M_data M_waiting M_master M_counts M_line M_length M_sent M_state M_places M_least M_row M_rowSize M_differ M_blocks M_marks M_wrongs M_rights M_tells M_lastMaster M_lastCounts M_depth M_fill M_half M_bytes M_elements M_word M_powers M_values M_logarithms M_forms M_system M_solved M_wrong) → va_S A s.heap H locs → ∀ (ls : Array Slot), lv_has ls 6 [(0, .ref qM), (1, .int x1), (2, .int x2), (3, .int x3), (4, .int x4)] → W p l e (RM 3 75) s m args below meth c H locs 0 0 Q0 (F0 m 51 ls []) := by
    intro x1 x2 x3 x4 M_bytes M_word M_values M_system M_solved M_wrong hm H locs hP hD hS ls hl
    unfold f_Mo_mend_51 at hm
    refine lv_iconst (v := (0 : Int32)) hx hb d_Mo_mend_51 (by decide) ?_
    refine lv_istore (lv' := [(5, .int (0 : Int32)), (0, .ref qM), (1, .int x1), (2, .int x2), (3, .int x3), (4, .int x4)]) hx hb d_Mo_mend_52 hl (by decide) rfl (fun ls hl => ?_)
    exact T54 10000 x1 x2 x3 x4 (0 : Int32) M_bytes M_word M_values M_system M_solved M_wrong hm _ _ hP hD hS _ (lv_sub hl [1, 2, 3, 4, 5, 0] rfl)
  have T14 : ∀ (n14 : Nat) (x1 : Int32) (x2 : Int32) (x3 : Int32) (x4 : Int32) (M_bytes : Nat → Int32) (M_word : Nat → Int32) (M_values : Nat → Int32) (M_system : Nat → Int32) (M_solved : Nat → Int32) (M_wrong : Nat → Int32), f_Mo_mend_14 M_depth M_fill M_half M_elements M_powers M_logarithms M_forms n14 x1 x2 x3 x4 M_bytes M_word M_values M_system M_solved M_wrong = some (rr, M_bytes', M_word', M_values', M_system', M_solved', M_wrong') → ∀ (H : Heap) (locs : List Loc), va_P D classes (w_Mo_mend cI cJ qM qM_bytes qM_elements qM_word qM_powers qM_values qM_logarithms qM_forms qM_system qM_solved qM_wrong M_thrown M_pattern M_craft M_begins M_firsts M_seconds M_mixer M_data M_waiting M_master M_counts M_line M_length M_sent M_state M_places M_least M_row M_rowSize M_differ M_blocks M_marks M_wrongs M_rights M_tells M_lastMaster M_lastCounts M_depth M_fill M_half M_bytes M_elements M_word M_powers M_values M_logarithms M_forms M_system M_solved M_wrong) H → va_D A (w_Mo_mend cI cJ qM qM_bytes qM_elements qM_word qM_powers qM_values qM_logarithms qM_forms qM_system qM_solved qM_wrong M_thrown M_pattern M_craft M_begins M_firsts M_seconds M_mixer M_data M_waiting M_master M_counts M_line M_length M_sent M_state M_places M_least M_row M_rowSize M_differ M_blocks M_marks M_wrongs M_rights M_tells M_lastMaster M_lastCounts M_depth M_fill M_half M_bytes M_elements M_word M_powers M_values M_logarithms M_forms M_system M_solved M_wrong) → va_S A s.heap H locs → ∀ (ls : Array Slot), lv_has ls 6 [(0, .ref qM), (1, .int x1), (2, .int x2), (3, .int x3), (4, .int x4)] → W p l e (RM 3 75) s m args below meth c H locs 0 0 Q0 (F0 m 14 ls []) := by
    intro n14
    induction n14 with
    | zero => intro x1 x2 x3 x4 M_bytes M_word M_values M_system M_solved M_wrong hm; cases hm
    | succ n14 ih14 =>
      intro x1 x2 x3 x4 M_bytes M_word M_values M_system M_solved M_wrong hm H locs hP hD hS ls hl
      replace hm : f_Mo_mend_14_b M_depth M_fill M_half M_elements M_powers M_logarithms M_forms (f_Mo_mend_14 M_depth M_fill M_half M_elements M_powers M_logarithms M_forms n14) x1 x2 x3 x4 M_bytes M_word M_values M_system M_solved M_wrong = some (rr, M_bytes', M_word', M_values', M_system', M_solved', M_wrong') := hm
      unfold f_Mo_mend_14_b at hm
      refine lv_iload_n hx hb d_Mo_mend_14 rfl (lv_at hl 3 rfl) ?_
      refine z_ifn hm (lv_if_ne (tgt := 51) hx hb d_Mo_mend_15 (by decide)) (fun hm => ?_) (fun hm => ?_)
      · refine lv_iload hx hb d_Mo_mend_18 (lv_at hl 4 rfl) ?_
        refine lv_aload_n hx hb d_Mo_mend_20 rfl (lv_at hl 0 rfl) ?_
        refine va_get (D := D) (ci := 11) (v := .int M_half) (C := "DeepChannelModel") (T := fT_Mo) (N := 40) hx hb hts u_Mo hown hK hP 0 rfl rfl 3 (by decide) (hts _ k_889) (fun _ h9 => h9) rfl d_Mo_mend_21 ?_
        refine z_if hm (lv_icmp_ge (tgt := 51) hx hb d_Mo_mend_24 (by decide)) (fun hm => ?_) (fun hm => ?_)
        · exact T51 x1 x2 x3 x4 M_bytes M_word M_values M_system M_solved M_wrong hm _ _ hP hD hS _ (lv_sub hl [0, 1, 2, 3, 4] rfl)
        · obtain ⟨v7, ev, hm⟩ := nm_el hm
          refine lv_iinc (v := v7) (lv' := [(4, .int v7), (0, .ref qM), (1, .int x1), (2, .int x2), (3, .int x3)]) hx hb d_Mo_mend_27 hl (k := 4) rfl (by rw [ev]; rfl) (by decide) rfl (fun ls hl => ?_)
          refine lv_aload_n hx hb d_Mo_mend_30 rfl (lv_at hl 1 rfl) ?_
          refine lv_iload_n hx hb d_Mo_mend_31 rfl (lv_at hl 2 rfl) ?_
          refine lv_iload_n hx hb d_Mo_mend_32 rfl (lv_at hl 3 rfl) ?_
          obtain ⟨g8, hu, hm⟩ := bd_el hm
          replace hm := nm_1 hm
          refine z_cVv (wc := w_Mo_takeWord cI cJ qM qM_bytes qM_elements qM_word M_thrown (.int M_half) M_pattern M_craft M_begins M_firsts M_seconds (.ref qM_powers) (.ref qM_logarithms) (.ref qM_forms) M_mixer M_data M_waiting M_master M_counts M_line M_length M_sent M_state M_places M_least M_row M_rowSize M_differ M_blocks M_marks M_wrongs M_rights M_tells M_lastMaster M_lastCounts (.ref qM_values) (.ref qM_system) (.ref qM_solved) (.ref qM_wrong) M_depth M_fill M_bytes M_elements M_word) (wc' := w_Mo_takeWord cI cJ qM qM_bytes qM_elements qM_word M_thrown (.int M_half) M_pattern M_craft M_begins M_firsts M_seconds (.ref qM_powers) (.ref qM_logarithms) (.ref qM_forms) M_mixer M_data M_waiting M_master M_counts M_line M_length M_sent M_state M_places M_least M_row M_rowSize M_differ M_blocks M_marks M_wrongs M_rights M_tells M_lastMaster M_lastCounts (.ref qM_values) (.ref qM_system) (.ref qM_solved) (.ref qM_wrong) M_depth M_fill M_bytes M_elements g8) (wr := [(qM_powers, .inl (cI, 255, .inl M_powers)), (qM_values, .inl (cI, 32, .inl M_values)), (qM_logarithms, .inl (cI, 256, .inl M_logarithms)), (qM_forms, .inl (cI, 256, .inl M_forms)), (qM_system, .inl (cI, 1056, .inl M_system)), (qM_solved, .inl (cI, 32, .inl M_solved)), (qM_wrong, .inl (cI, 16, .inl M_wrong))]) (As := [.int x1, .int x2]) (rest := []) (c_Mo_takeWord l D cI cJ tt qM qM_bytes qM_elements qM_word M_thrown (.int M_half) M_pattern M_craft M_begins M_firsts M_seconds (.ref qM_powers) (.ref qM_logarithms) (.ref qM_forms) M_mixer M_data M_waiting M_master M_counts M_line M_length M_sent M_state M_places M_least M_row M_rowSize M_differ M_blocks M_marks M_wrongs M_rights M_tells M_lastMaster M_lastCounts (.ref qM_values) (.ref qM_system) (.ref qM_solved) (.ref qM_wrong) _ M_depth M_fill M_bytes M_elements M_word x1 x2 g8 hu) F ok_Mo_takeWord rfl k_1155 hK hE hP hD hS hA [0, 1, 2, 3] [4, 5, 6, 7, 8, 9, 10] rfl rfl (by decide) (by decide) (by decide) 0 rfl rfl rfl ⟨rfl, rfl, Nat.le_of_ble_eq_true rfl, Nat.le_of_ble_eq_true rfl⟩ ⟨Nat.zero_le _, Nat.zero_le _⟩ rfl hl.1 rfl (Nat.le_of_ble_eq_true rfl) d_Mo_mend_33 (fun H locs hP hD hS => ?_)
          have hP : va_P D classes (w_Mo_mend cI cJ qM qM_bytes qM_elements qM_word qM_powers qM_values qM_logarithms qM_forms qM_system qM_solved qM_wrong M_thrown M_pattern M_craft M_begins M_firsts M_seconds M_mixer M_data M_waiting M_master M_counts M_line M_length M_sent M_state M_places M_least M_row M_rowSize M_differ M_blocks M_marks M_wrongs M_rights M_tells M_lastMaster M_lastCounts M_depth M_fill M_half M_bytes M_elements g8 M_powers M_values M_logarithms M_forms M_system M_solved M_wrong) H := hP.sub [7, 8, 9, 10, 0, 1, 2, 3, 4, 5, 6] rfl
          have hD : va_D A (w_Mo_mend cI cJ qM qM_bytes qM_elements qM_word qM_powers qM_values qM_logarithms qM_forms qM_system qM_solved qM_wrong M_thrown M_pattern M_craft M_begins M_firsts M_seconds M_mixer M_data M_waiting M_master M_counts M_line M_length M_sent M_state M_places M_least M_row M_rowSize M_differ M_blocks M_marks M_wrongs M_rights M_tells M_lastMaster M_lastCounts M_depth M_fill M_half M_bytes M_elements g8 M_powers M_values M_logarithms M_forms M_system M_solved M_wrong) := hD.sub [7, 8, 9, 10, 0, 1, 2, 3, 4, 5, 6] (by decide) rfl
          refine lv_aload_n hx hb d_Mo_mend_36 rfl (lv_at hl 1 rfl) ?_
          obtain ⟨⟨r10, g11⟩, hu, hm⟩ := bd_el hm
          replace hm := nm_2 hm
          refine z_cVi (wc := w_Mo_isCodeword cI cJ qM qM_powers qM_values qM_logarithms qM_word M_thrown (.int M_depth) M_pattern M_craft M_begins M_firsts M_seconds (.ref qM_forms) (.ref qM_elements) M_mixer M_data M_waiting M_master M_counts M_line M_length M_sent M_state M_places M_least M_row M_rowSize M_differ M_blocks M_marks M_wrongs (.ref qM_bytes) M_rights M_tells M_lastMaster M_lastCounts (.ref qM_system) (.ref qM_solved) (.ref qM_wrong) M_fill M_half M_powers M_values M_logarithms g8) (wc' := w_Mo_isCodeword cI cJ qM qM_powers qM_values qM_logarithms qM_word M_thrown (.int M_depth) M_pattern M_craft M_begins M_firsts M_seconds (.ref qM_forms) (.ref qM_elements) M_mixer M_data M_waiting M_master M_counts M_line M_length M_sent M_state M_places M_least M_row M_rowSize M_differ M_blocks M_marks M_wrongs (.ref qM_bytes) M_rights M_tells M_lastMaster M_lastCounts (.ref qM_system) (.ref qM_solved) (.ref qM_wrong) M_fill M_half M_powers g11 M_logarithms g8) (wr := [(qM_bytes, .inl (cI, 4000, .inl M_bytes)), (qM_elements, .inl (cI, 256, .inl M_elements)), (qM_forms, .inl (cI, 256, .inl M_forms)), (qM_system, .inl (cI, 1056, .inl M_system)), (qM_solved, .inl (cI, 32, .inl M_solved)), (qM_wrong, .inl (cI, 16, .inl M_wrong))]) (As := []) (rest := []) (c_Mo_isCodeword l D cI cJ tt qM qM_powers qM_values qM_logarithms qM_word M_thrown (.int M_depth) M_pattern M_craft M_begins M_firsts M_seconds (.ref qM_forms) (.ref qM_elements) M_mixer M_data M_waiting M_master M_counts M_line M_length M_sent M_state M_places M_least M_row M_rowSize M_differ M_blocks M_marks M_wrongs (.ref qM_bytes) M_rights M_tells M_lastMaster M_lastCounts (.ref qM_system) (.ref qM_solved) (.ref qM_wrong) _ M_fill M_half M_powers M_values M_logarithms g8 r10 g11 hu) F ok_Mo_isCodeword rfl k_1082 hK hE hP hD hS hA [0, 4, 5, 6, 3] [1, 2, 7, 8, 9, 10] rfl rfl (by decide) (by decide) (by decide) 0 rfl rfl rfl ⟨rfl, rfl, Nat.le_of_ble_eq_true rfl, Nat.le_of_ble_eq_true rfl⟩ ⟨Nat.zero_le _, Nat.zero_le _⟩ rfl hl.1 rfl (Nat.le_of_ble_eq_true rfl) d_Mo_mend_37 (fun H locs hP hD hS => ?_)
          have hP : va_P D classes (w_Mo_mend cI cJ qM qM_bytes qM_elements qM_word qM_powers qM_values qM_logarithms qM_forms qM_system qM_solved qM_wrong M_thrown M_pattern M_craft M_begins M_firsts M_seconds M_mixer M_data M_waiting M_master M_counts M_line M_length M_sent M_state M_places M_least M_row M_rowSize M_differ M_blocks M_marks M_wrongs M_rights M_tells M_lastMaster M_lastCounts M_depth M_fill M_half M_bytes M_elements g8 M_powers g11 M_logarithms M_forms M_system M_solved M_wrong) H := hP.sub [6, 0, 1, 10, 7, 8, 9, 2, 3, 4, 5] rfl
          have hD : va_D A (w_Mo_mend cI cJ qM qM_bytes qM_elements qM_word qM_powers qM_values qM_logarithms qM_forms qM_system qM_solved qM_wrong M_thrown M_pattern M_craft M_begins M_firsts M_seconds M_mixer M_data M_waiting M_master M_counts M_line M_length M_sent M_state M_places M_least M_row M_rowSize M_differ M_blocks M_marks M_wrongs M_rights M_tells M_lastMaster M_lastCounts M_depth M_fill M_half M_bytes M_elements g8 M_powers g11 M_logarithms M_forms M_system M_solved M_wrong) := hD.sub [6, 0, 1, 10, 7, 8, 9, 2, 3, 4, 5] (by decide) rfl
          refine lv_istore_n (lv' := [(3, .int r10), (4, .int v7), (0, .ref qM), (1, .int x1), (2, .int x2)]) hx hb d_Mo_mend_40 rfl hl (by decide) rfl (fun ls hl => ?_)
          refine lv_aload_n hx hb d_Mo_mend_41 rfl (lv_at hl 2 rfl) ?_
          refine lv_iload hx hb d_Mo_mend_42 (lv_at hl 1 rfl) ?_
          obtain ⟨⟨r13, g14, g15, g16, g17, g18⟩, hu, hm⟩ := bd_el hm
          replace hm := nm_6 hm
          refine z_cVi (wc := w_Mo_mends cI cJ qM qM_system qM_solved qM_logarithms qM_powers qM_values qM_word qM_wrong M_thrown (.int M_depth) M_pattern M_craft M_begins M_firsts M_seconds (.ref qM_forms) (.ref qM_elements) M_mixer M_data M_waiting M_master M_counts M_line M_length M_sent M_state M_places M_least M_row M_rowSize M_differ M_blocks M_marks M_wrongs (.ref qM_bytes) M_rights M_tells M_lastMaster M_lastCounts M_fill M_half M_system M_solved M_logarithms M_powers g11 g8 M_wrong) (wc' := w_Mo_mends cI cJ qM qM_system qM_solved qM_logarithms qM_powers qM_values qM_word qM_wrong M_thrown (.int M_depth) M_pattern M_craft M_begins M_firsts M_seconds (.ref qM_forms) (.ref qM_elements) M_mixer M_data M_waiting M_master M_counts M_line M_length M_sent M_state M_places M_least M_row M_rowSize M_differ M_blocks M_marks M_wrongs (.ref qM_bytes) M_rights M_tells M_lastMaster M_lastCounts M_fill M_half g14 g15 M_logarithms M_powers g16 g17 g18) (wr := [(qM_bytes, .inl (cI, 4000, .inl M_bytes)), (qM_elements, .inl (cI, 256, .inl M_elements)), (qM_forms, .inl (cI, 256, .inl M_forms))]) (As := [.int v7]) (rest := []) (c_Mo_mends l D cI cJ tt qM qM_system qM_solved qM_logarithms qM_powers qM_values qM_word qM_wrong M_thrown (.int M_depth) M_pattern M_craft M_begins M_firsts M_seconds (.ref qM_forms) (.ref qM_elements) M_mixer M_data M_waiting M_master M_counts M_line M_length M_sent M_state M_places M_least M_row M_rowSize M_differ M_blocks M_marks M_wrongs (.ref qM_bytes) M_rights M_tells M_lastMaster M_lastCounts _ M_fill M_half M_system M_solved M_logarithms M_powers g11 g8 M_wrong v7 r13 g14 g15 g16 g17 g18 hu) F ok_Mo_mends rfl k_1159 hK hE hP hD hS hA [0, 8, 9, 6, 4, 5, 3, 10] [1, 2, 7] rfl rfl (by decide) (by decide) (by decide) 0 rfl rfl rfl ⟨rfl, rfl, Nat.le_of_ble_eq_true rfl, Nat.le_of_ble_eq_true rfl⟩ ⟨Nat.zero_le _, Nat.zero_le _⟩ rfl hl.1 rfl (Nat.le_of_ble_eq_true rfl) d_Mo_mend_44 (fun H locs hP hD hS => ?_)
          have hP : va_P D classes (w_Mo_mend cI cJ qM qM_bytes qM_elements qM_word qM_powers qM_values qM_logarithms qM_forms qM_system qM_solved qM_wrong M_thrown M_pattern M_craft M_begins M_firsts M_seconds M_mixer M_data M_waiting M_master M_counts M_line M_length M_sent M_state M_places M_least M_row M_rowSize M_differ M_blocks M_marks M_wrongs M_rights M_tells M_lastMaster M_lastCounts M_depth M_fill M_half M_bytes M_elements g17 M_powers g16 M_logarithms M_forms g14 g15 g18) H := hP.sub [3, 0, 1, 9, 7, 8, 6, 2, 4, 5, 10] rfl
          have hD : va_D A (w_Mo_mend cI cJ qM qM_bytes qM_elements qM_word qM_powers qM_values qM_logarithms qM_forms qM_system qM_solved qM_wrong M_thrown M_pattern M_craft M_begins M_firsts M_seconds M_mixer M_data M_waiting M_master M_counts M_line M_length M_sent M_state M_places M_least M_row M_rowSize M_differ M_blocks M_marks M_wrongs M_rights M_tells M_lastMaster M_lastCounts M_depth M_fill M_half M_bytes M_elements g17 M_powers g16 M_logarithms M_forms g14 g15 g18) := hD.sub [3, 0, 1, 9, 7, 8, 6, 2, 4, 5, 10] (by decide) rfl
          refine lv_istore_n (lv' := [(3, .int r13), (4, .int v7), (0, .ref qM), (1, .int x1), (2, .int x2)]) hx hb d_Mo_mend_47 rfl hl (by decide) rfl (fun ls hl => ?_)
          refine lv_goto (tgt := 14) hx hb d_Mo_mend_48 (by decide) ?_
          exact ih14 x1 x2 r13 v7 M_bytes g17 g16 g14 g15 g18 hm _ _ hP hD hS _ (lv_sub hl [2, 3, 4, 0, 1] rfl)
      · exact T51 x1 x2 x3 x4 M_bytes M_word M_values M_system M_solved M_wrong hm _ _ hP hD hS _ (lv_sub hl [0, 1, 2, 3, 4] rfl)
  unfold f_Mo_mend at hm
  refine lv_aload_n hx hb d_Mo_mend_0 rfl (lv_at hl 0 rfl) ?_
  refine lv_iload_n hx hb d_Mo_mend_1 rfl (lv_at hl 1 rfl) ?_
  refine lv_iload_n hx hb d_Mo_mend_2 rfl (lv_at hl 2 rfl) ?_
  obtain ⟨g20, hu, hm⟩ := bd_el hm
  replace hm := nm_1 hm
  refine z_cVv (wc := w_Mo_takeWord cI cJ qM qM_bytes qM_elements qM_word M_thrown (.int M_half) M_pattern M_craft M_begins M_firsts M_seconds (.ref qM_powers) (.ref qM_logarithms) (.ref qM_forms) M_mixer M_data M_waiting M_master M_counts M_line M_length M_sent M_state M_places M_least M_row M_rowSize M_differ M_blocks M_marks M_wrongs M_rights M_tells M_lastMaster M_lastCounts (.ref qM_values) (.ref qM_system) (.ref qM_solved) (.ref qM_wrong) M_depth M_fill M_bytes M_elements M_word) (wc' := w_Mo_takeWord cI cJ qM qM_bytes qM_elements qM_word M_thrown (.int M_half) M_pattern M_craft M_begins M_firsts M_seconds (.ref qM_powers) (.ref qM_logarithms) (.ref qM_forms) M_mixer M_data M_waiting M_master M_counts M_line M_length M_sent M_state M_places M_least M_row M_rowSize M_differ M_blocks M_marks M_wrongs M_rights M_tells M_lastMaster M_lastCounts (.ref qM_values) (.ref qM_system) (.ref qM_solved) (.ref qM_wrong) M_depth M_fill M_bytes M_elements g20) (wr := [(qM_powers, .inl (cI, 255, .inl M_powers)), (qM_values, .inl (cI, 32, .inl M_values)), (qM_logarithms, .inl (cI, 256, .inl M_logarithms)), (qM_forms, .inl (cI, 256, .inl M_forms)), (qM_system, .inl (cI, 1056, .inl M_system)), (qM_solved, .inl (cI, 32, .inl M_solved)), (qM_wrong, .inl (cI, 16, .inl M_wrong))]) (As := [.int x1, .int x2]) (rest := []) (c_Mo_takeWord l D cI cJ tt qM qM_bytes qM_elements qM_word M_thrown (.int M_half) M_pattern M_craft M_begins M_firsts M_seconds (.ref qM_powers) (.ref qM_logarithms) (.ref qM_forms) M_mixer M_data M_waiting M_master M_counts M_line M_length M_sent M_state M_places M_least M_row M_rowSize M_differ M_blocks M_marks M_wrongs M_rights M_tells M_lastMaster M_lastCounts (.ref qM_values) (.ref qM_system) (.ref qM_solved) (.ref qM_wrong) _ M_depth M_fill M_bytes M_elements M_word x1 x2 g20 hu) F ok_Mo_takeWord rfl k_1155 hK hE hP hD hS hA [0, 1, 2, 3] [4, 5, 6, 7, 8, 9, 10] rfl rfl (by decide) (by decide) (by decide) 0 rfl rfl rfl ⟨rfl, rfl, Nat.le_of_ble_eq_true rfl, Nat.le_of_ble_eq_true rfl⟩ ⟨Nat.zero_le _, Nat.zero_le _⟩ rfl hl.1 rfl (Nat.le_of_ble_eq_true rfl) d_Mo_mend_3 (fun H locs hP hD hS => ?_)
  have hP : va_P D classes (w_Mo_mend cI cJ qM qM_bytes qM_elements qM_word qM_powers qM_values qM_logarithms qM_forms qM_system qM_solved qM_wrong M_thrown M_pattern M_craft M_begins M_firsts M_seconds M_mixer M_data M_waiting M_master M_counts M_line M_length M_sent M_state M_places M_least M_row M_rowSize M_differ M_blocks M_marks M_wrongs M_rights M_tells M_lastMaster M_lastCounts M_depth M_fill M_half M_bytes M_elements g20 M_powers M_values M_logarithms M_forms M_system M_solved M_wrong) H := hP.sub [7, 8, 9, 10, 0, 1, 2, 3, 4, 5, 6] rfl
  have hD : va_D A (w_Mo_mend cI cJ qM qM_bytes qM_elements qM_word qM_powers qM_values qM_logarithms qM_forms qM_system qM_solved qM_wrong M_thrown M_pattern M_craft M_begins M_firsts M_seconds M_mixer M_data M_waiting M_master M_counts M_line M_length M_sent M_state M_places M_least M_row M_rowSize M_differ M_blocks M_marks M_wrongs M_rights M_tells M_lastMaster M_lastCounts M_depth M_fill M_half M_bytes M_elements g20 M_powers M_values M_logarithms M_forms M_system M_solved M_wrong) := hD.sub [7, 8, 9, 10, 0, 1, 2, 3, 4, 5, 6] (by decide) rfl
  refine lv_aload_n hx hb d_Mo_mend_6 rfl (lv_at hl 0 rfl) ?_
  obtain ⟨⟨r22, g23⟩, hu, hm⟩ := bd_el hm
  replace hm := nm_2 hm
  refine z_cVi (wc := w_Mo_isCodeword cI cJ qM qM_powers qM_values qM_logarithms qM_word M_thrown (.int M_depth) M_pattern M_craft M_begins M_firsts M_seconds (.ref qM_forms) (.ref qM_elements) M_mixer M_data M_waiting M_master M_counts M_line M_length M_sent M_state M_places M_least M_row M_rowSize M_differ M_blocks M_marks M_wrongs (.ref qM_bytes) M_rights M_tells M_lastMaster M_lastCounts (.ref qM_system) (.ref qM_solved) (.ref qM_wrong) M_fill M_half M_powers M_values M_logarithms g20) (wc' := w_Mo_isCodeword cI cJ qM qM_powers qM_values qM_logarithms qM_word M_thrown (.int M_depth) M_pattern M_craft M_begins M_firsts M_seconds (.ref qM_forms) (.ref qM_elements) M_mixer M_data M_waiting M_master M_counts M_line M_length M_sent M_state M_places M_least M_row M_rowSize M_differ M_blocks M_marks M_wrongs (.ref qM_bytes) M_rights M_tells M_lastMaster M_lastCounts (.ref qM_system) (.ref qM_solved) (.ref qM_wrong) M_fill M_half M_powers g23 M_logarithms g20) (wr := [(qM_bytes, .inl (cI, 4000, .inl M_bytes)), (qM_elements, .inl (cI, 256, .inl M_elements)), (qM_forms, .inl (cI, 256, .inl M_forms)), (qM_system, .inl (cI, 1056, .inl M_system)), (qM_solved, .inl (cI, 32, .inl M_solved)), (qM_wrong, .inl (cI, 16, .inl M_wrong))]) (As := []) (rest := []) (c_Mo_isCodeword l D cI cJ tt qM qM_powers qM_values qM_logarithms qM_word M_thrown (.int M_depth) M_pattern M_craft M_begins M_firsts M_seconds (.ref qM_forms) (.ref qM_elements) M_mixer M_data M_waiting M_master M_counts M_line M_length M_sent M_state M_places M_least M_row M_rowSize M_differ M_blocks M_marks M_wrongs (.ref qM_bytes) M_rights M_tells M_lastMaster M_lastCounts (.ref qM_system) (.ref qM_solved) (.ref qM_wrong) _ M_fill M_half M_powers M_values M_logarithms g20 r22 g23 hu) F ok_Mo_isCodeword rfl k_1082 hK hE hP hD hS hA [0, 4, 5, 6, 3] [1, 2, 7, 8, 9, 10] rfl rfl (by decide) (by decide) (by decide) 0 rfl rfl rfl ⟨rfl, rfl, Nat.le_of_ble_eq_true rfl, Nat.le_of_ble_eq_true rfl⟩ ⟨Nat.zero_le _, Nat.zero_le _⟩ rfl hl.1 rfl (Nat.le_of_ble_eq_true rfl) d_Mo_mend_7 (fun H locs hP hD hS => ?_)
  have hP : va_P D classes (w_Mo_mend cI cJ qM qM_bytes qM_elements qM_word qM_powers qM_values qM_logarithms qM_forms qM_system qM_solved qM_wrong M_thrown M_pattern M_craft M_begins M_firsts M_seconds M_mixer M_data M_waiting M_master M_counts M_line M_length M_sent M_state M_places M_least M_row M_rowSize M_differ M_blocks M_marks M_wrongs M_rights M_tells M_lastMaster M_lastCounts M_depth M_fill M_half M_bytes M_elements g20 M_powers g23 M_logarithms M_forms M_system M_solved M_wrong) H := hP.sub [6, 0, 1, 10, 7, 8, 9, 2, 3, 4, 5] rfl
  have hD : va_D A (w_Mo_mend cI cJ qM qM_bytes qM_elements qM_word qM_powers qM_values qM_logarithms qM_forms qM_system qM_solved qM_wrong M_thrown M_pattern M_craft M_begins M_firsts M_seconds M_mixer M_data M_waiting M_master M_counts M_line M_length M_sent M_state M_places M_least M_row M_rowSize M_differ M_blocks M_marks M_wrongs M_rights M_tells M_lastMaster M_lastCounts M_depth M_fill M_half M_bytes M_elements g20 M_powers g23 M_logarithms M_forms M_system M_solved M_wrong) := hD.sub [6, 0, 1, 10, 7, 8, 9, 2, 3, 4, 5] (by decide) rfl
  refine lv_istore_n (lv' := [(3, .int r22), (0, .ref qM), (1, .int x1), (2, .int x2)]) hx hb d_Mo_mend_10 rfl hl (by decide) rfl (fun ls hl => ?_)
  refine lv_iconst (v := (0 : Int32)) hx hb d_Mo_mend_11 (by decide) ?_
  refine lv_istore (lv' := [(4, .int (0 : Int32)), (3, .int r22), (0, .ref qM), (1, .int x1), (2, .int x2)]) hx hb d_Mo_mend_12 hl (by decide) rfl (fun ls hl => ?_)
  exact T14 10000 x1 x2 r22 (0 : Int32) M_bytes g20 g23 M_system M_solved M_wrong hm _ _ hP hD hS _ (lv_sub hl [2, 3, 4, 1, 0] rfl)
-- DeepChannelModel.gap(II)I
abbrev b_Mo_gap : ByteArray := prog_13_method_43_code
abbrev y_Mo_gap : MethodName := ⟨"DeepChannelModel", "gap", "(II)I"⟩
theorem d_Mo_gap_0 : decode b_Mo_gap 0 = .ok (.iload_n 1, 1) := by decide +kernel
theorem d_Mo_gap_1 : decode b_Mo_gap 1 = .ok (.ifCond .ge 7, 3) := by decide +kernel
theorem d_Mo_gap_4 : decode b_Mo_gap 4 = .ok (.iconst 0, 1) := by decide +kernel
theorem d_Mo_gap_5 : decode b_Mo_gap 5 = .ok (.goto 16, 3) := by decide +kernel
theorem d_Mo_gap_8 : decode b_Mo_gap 8 = .ok (.iload_n 0, 1) := by decide +kernel
theorem d_Mo_gap_9 : decode b_Mo_gap 9 = .ok (.iload_n 1, 1) := by decide +kernel
theorem d_Mo_gap_10 : decode b_Mo_gap 10 = .ok (.isub, 1) := by decide +kernel
theorem d_Mo_gap_11 : decode b_Mo_gap 11 = .ok (.iconst 1, 1) := by decide +kernel
theorem d_Mo_gap_12 : decode b_Mo_gap 12 = .ok (.isub, 1) := by decide +kernel
theorem d_Mo_gap_13 : decode b_Mo_gap 13 = .ok (.sipush 512, 3) := by decide +kernel
theorem d_Mo_gap_16 : decode b_Mo_gap 16 = .ok (.iadd, 1) := by decide +kernel
theorem d_Mo_gap_17 : decode b_Mo_gap 17 = .ok (.sipush 256, 3) := by decide +kernel
theorem d_Mo_gap_20 : decode b_Mo_gap 20 = .ok (.irem, 1) := by decide +kernel
theorem d_Mo_gap_21 : decode b_Mo_gap 21 = .ok (.ireturn, 1) := by decide +kernel
theorem ok_Mo_gap : OKs y_Mo_gap b_Mo_gap 2 (some .int) 2 := ⟨k_1169, k_1168, k_55, by decide +kernel, by decide +kernel, by decide +kernel⟩
abbrev w_Mo_gap  : va_W := []
def f_Mo_gap (x0 : Int32) (x1 : Int32) : Option (Int32) :=
  if 0 ≤ x1 then
    dv (256 : Int32) <|
    some ((((x0 - x1) - (1 : Int32)) + (512 : Int32)) - (((x0 - x1) - (1 : Int32)) + (512 : Int32)) / (256 : Int32) * (256 : Int32))
  else
  some (0 : Int32)
set_option maxHeartbeats 4000000 in
set_option maxRecDepth 100000 in
theorem c_Mo_gap (l : Launch) (D : va_G) (cI cJ : ClassId) (tt : Nat → Nat) (sz : Nat) (x0 : Int32) (x1 : Int32) (rr : Int32) (hm : f_Mo_gap x0 x1 = some rr) : CTi l y_Mo_gap b_Mo_gap 2 (some .int) (RM 0 0) D cI cJ tt [.int x0, .int x1] (w_Mo_gap) (w_Mo_gap) sz rr := by
  refine Met.ofW (cc := b_Mo_gap) (maxL := 2) (ret := (some .int)) (by decide) rfl ?_
  intro p e s m args below meth c s₁ B hml hv
  obtain ⟨hargs, hsz, hP, hK, hD0, hE⟩ := hv
  have hx := B.exec
  have hb := B.bytes
  have hr := B.returns
  have hts : ∀ w ∈ TB, w.before args s = true := z_mV s (atoms_spec (ws := WD y_Mo_gap b_Mo_gap 2 (some .int)) B.pre)
  have hown : s.vm.findClass "DeepChannelModel" = some m.cls := findClass_of_methodNamed B.named
  have hlocks := B.notSynchronized
  subst hsz
  have hD := hD0.self (sz := s.heap.size)
  generalize hAe : va_A (w_Mo_gap) s.heap.size = A at hD hE ⊢
  have hA : ∀ q : Nat, s.heap.size ≤ q → A q := fun q h => by rw [← hAe]; exact Or.inr h
  have hS : va_S A s.heap s.heap [] := va_S.rf
  refine z_entry (vs := [.int x0, .int x1]) hargs (Nat.le_of_ble_eq_true rfl) (fun ls hl => ?_)
  have hl : lv_has ls 2 [(0, .int x0), (1, .int x1)] := hl
  show W p l e (RM 0 0) s m args below meth c s.heap [] 0 0 _ _
  refine z_qi (fun Q0 hQ => ?_)
  have F : CallFix p m c b_Mo_gap 2 s args TB "DeepChannelModel" := ⟨hx, hb, hml, hown, hts⟩
  unfold f_Mo_gap at hm
  refine lv_iload_n hx hb d_Mo_gap_0 rfl (lv_at hl 1 rfl) ?_
  refine z_if hm (lv_if_ge (tgt := 8) hx hb d_Mo_gap_1 (by decide)) (fun hm => ?_) (fun hm => ?_)
  · refine lv_iload_n hx hb d_Mo_gap_8 rfl (lv_at hl 0 rfl) ?_
    refine lv_iload_n hx hb d_Mo_gap_9 rfl (lv_at hl 1 rfl) ?_
    refine lv_isub hx hb d_Mo_gap_10 ?_
    refine lv_iconst (v := (1 : Int32)) hx hb d_Mo_gap_11 (by decide) ?_
    refine lv_isub hx hb d_Mo_gap_12 ?_
    refine lv_sipush (v := (512 : Int32)) hx hb d_Mo_gap_13 (by decide) ?_
    refine lv_iadd hx hb d_Mo_gap_16 ?_
    refine lv_sipush (v := (256 : Int32)) hx hb d_Mo_gap_17 (by decide) ?_
    refine z_irem hm hx hb d_Mo_gap_20 (fun hm => ?_)
    cases hm
    exact z_qo hQ (z_ireti hr hx hb hlocks hK hP hD hS d_Mo_gap_21)
  · refine lv_iconst (v := (0 : Int32)) hx hb d_Mo_gap_4 (by decide) ?_
    refine lv_goto (tgt := 21) hx hb d_Mo_gap_5 (by decide) ?_
    cases hm
    exact z_qo hQ (z_ireti hr hx hb hlocks hK hP hD hS d_Mo_gap_21)
-- DeepChannelModel.gaps(I)V
abbrev b_Mo_gaps : ByteArray := prog_13_method_44_code
abbrev y_Mo_gaps : MethodName := ⟨"DeepChannelModel", "gaps", "(I)V"⟩
theorem d_Mo_gaps_0 : decode b_Mo_gaps 0 = .ok (.aload_n 0, 1) := by decide +kernel
theorem d_Mo_gaps_1 : decode b_Mo_gaps 1 = .ok (.getfield 69, 3) := by decide +kernel
theorem d_Mo_gaps_4 : decode b_Mo_gaps 4 = .ok (.iload_n 1, 1) := by decide +kernel
theorem d_Mo_gaps_5 : decode b_Mo_gaps 5 = .ok (.iconst 1, 1) := by decide +kernel
theorem d_Mo_gaps_6 : decode b_Mo_gaps 6 = .ok (.iadd, 1) := by decide +kernel
theorem d_Mo_gaps_7 : decode b_Mo_gaps 7 = .ok (.iaload, 1) := by decide +kernel
theorem d_Mo_gaps_8 : decode b_Mo_gaps 8 = .ok (.iconst 1, 1) := by decide +kernel
theorem d_Mo_gaps_9 : decode b_Mo_gaps 9 = .ok (.ishr, 1) := by decide +kernel
theorem d_Mo_gaps_10 : decode b_Mo_gaps 10 = .ok (.bipush 7, 2) := by decide +kernel
theorem d_Mo_gaps_12 : decode b_Mo_gaps 12 = .ok (.iand, 1) := by decide +kernel
theorem d_Mo_gaps_13 : decode b_Mo_gaps 13 = .ok (.istore_n 2, 1) := by decide +kernel
theorem d_Mo_gaps_14 : decode b_Mo_gaps 14 = .ok (.aload_n 0, 1) := by decide +kernel
theorem d_Mo_gaps_15 : decode b_Mo_gaps 15 = .ok (.getfield 75, 3) := by decide +kernel
theorem d_Mo_gaps_18 : decode b_Mo_gaps 18 = .ok (.bipush 6, 2) := by decide +kernel
theorem d_Mo_gaps_20 : decode b_Mo_gaps 20 = .ok (.aload_n 0, 1) := by decide +kernel
theorem d_Mo_gaps_21 : decode b_Mo_gaps 21 = .ok (.getfield 135, 3) := by decide +kernel
theorem d_Mo_gaps_24 : decode b_Mo_gaps 24 = .ok (.imul, 1) := by decide +kernel
theorem d_Mo_gaps_25 : decode b_Mo_gaps 25 = .ok (.iconst 3, 1) := by decide +kernel
theorem d_Mo_gaps_26 : decode b_Mo_gaps 26 = .ok (.iadd, 1) := by decide +kernel
theorem d_Mo_gaps_27 : decode b_Mo_gaps 27 = .ok (.aload_n 0, 1) := by decide +kernel
theorem d_Mo_gaps_28 : decode b_Mo_gaps 28 = .ok (.getfield 69, 3) := by decide +kernel
theorem d_Mo_gaps_31 : decode b_Mo_gaps 31 = .ok (.iload_n 1, 1) := by decide +kernel
theorem d_Mo_gaps_32 : decode b_Mo_gaps 32 = .ok (.iconst 2, 1) := by decide +kernel
theorem d_Mo_gaps_33 : decode b_Mo_gaps 33 = .ok (.iadd, 1) := by decide +kernel
theorem d_Mo_gaps_34 : decode b_Mo_gaps 34 = .ok (.iaload, 1) := by decide +kernel
theorem d_Mo_gaps_35 : decode b_Mo_gaps 35 = .ok (.aload_n 0, 1) := by decide +kernel
theorem d_Mo_gaps_36 : decode b_Mo_gaps 36 = .ok (.getfield 234, 3) := by decide +kernel
theorem d_Mo_gaps_39 : decode b_Mo_gaps 39 = .ok (.invokestatic 237, 3) := by decide +kernel
theorem d_Mo_gaps_42 : decode b_Mo_gaps 42 = .ok (.iastore, 1) := by decide +kernel
theorem d_Mo_gaps_43 : decode b_Mo_gaps 43 = .ok (.aload_n 0, 1) := by decide +kernel
theorem d_Mo_gaps_44 : decode b_Mo_gaps 44 = .ok (.getfield 75, 3) := by decide +kernel
theorem d_Mo_gaps_47 : decode b_Mo_gaps 47 = .ok (.bipush 6, 2) := by decide +kernel
theorem d_Mo_gaps_49 : decode b_Mo_gaps 49 = .ok (.aload_n 0, 1) := by decide +kernel
theorem d_Mo_gaps_50 : decode b_Mo_gaps 50 = .ok (.getfield 135, 3) := by decide +kernel
theorem d_Mo_gaps_53 : decode b_Mo_gaps 53 = .ok (.imul, 1) := by decide +kernel
theorem d_Mo_gaps_54 : decode b_Mo_gaps 54 = .ok (.iconst 4, 1) := by decide +kernel
theorem d_Mo_gaps_55 : decode b_Mo_gaps 55 = .ok (.iadd, 1) := by decide +kernel
theorem d_Mo_gaps_56 : decode b_Mo_gaps 56 = .ok (.aload_n 0, 1) := by decide +kernel
theorem d_Mo_gaps_57 : decode b_Mo_gaps 57 = .ok (.getfield 69, 3) := by decide +kernel
theorem d_Mo_gaps_60 : decode b_Mo_gaps 60 = .ok (.iload_n 1, 1) := by decide +kernel
theorem d_Mo_gaps_61 : decode b_Mo_gaps 61 = .ok (.iconst 3, 1) := by decide +kernel
theorem d_Mo_gaps_62 : decode b_Mo_gaps 62 = .ok (.iadd, 1) := by decide +kernel
theorem d_Mo_gaps_63 : decode b_Mo_gaps 63 = .ok (.iaload, 1) := by decide +kernel
theorem d_Mo_gaps_64 : decode b_Mo_gaps 64 = .ok (.aload_n 0, 1) := by decide +kernel
theorem d_Mo_gaps_65 : decode b_Mo_gaps 65 = .ok (.getfield 78, 3) := by decide +kernel
theorem d_Mo_gaps_68 : decode b_Mo_gaps 68 = .ok (.iload_n 2, 1) := by decide +kernel
theorem d_Mo_gaps_69 : decode b_Mo_gaps 69 = .ok (.iaload, 1) := by decide +kernel
theorem d_Mo_gaps_70 : decode b_Mo_gaps 70 = .ok (.invokestatic 237, 3) := by decide +kernel
theorem d_Mo_gaps_73 : decode b_Mo_gaps 73 = .ok (.iastore, 1) := by decide +kernel
theorem d_Mo_gaps_74 : decode b_Mo_gaps 74 = .ok (.aload_n 0, 1) := by decide +kernel
theorem d_Mo_gaps_75 : decode b_Mo_gaps 75 = .ok (.aload_n 0, 1) := by decide +kernel
theorem d_Mo_gaps_76 : decode b_Mo_gaps 76 = .ok (.getfield 69, 3) := by decide +kernel
theorem d_Mo_gaps_79 : decode b_Mo_gaps 79 = .ok (.iload_n 1, 1) := by decide +kernel
theorem d_Mo_gaps_80 : decode b_Mo_gaps 80 = .ok (.iconst 2, 1) := by decide +kernel
theorem d_Mo_gaps_81 : decode b_Mo_gaps 81 = .ok (.iadd, 1) := by decide +kernel
theorem d_Mo_gaps_82 : decode b_Mo_gaps 82 = .ok (.iaload, 1) := by decide +kernel
theorem d_Mo_gaps_83 : decode b_Mo_gaps 83 = .ok (.putfield 234, 3) := by decide +kernel
theorem d_Mo_gaps_86 : decode b_Mo_gaps 86 = .ok (.aload_n 0, 1) := by decide +kernel
theorem d_Mo_gaps_87 : decode b_Mo_gaps 87 = .ok (.getfield 78, 3) := by decide +kernel
theorem d_Mo_gaps_90 : decode b_Mo_gaps 90 = .ok (.iload_n 2, 1) := by decide +kernel
theorem d_Mo_gaps_91 : decode b_Mo_gaps 91 = .ok (.aload_n 0, 1) := by decide +kernel
theorem d_Mo_gaps_92 : decode b_Mo_gaps 92 = .ok (.getfield 69, 3) := by decide +kernel
theorem d_Mo_gaps_95 : decode b_Mo_gaps 95 = .ok (.iload_n 1, 1) := by decide +kernel
theorem d_Mo_gaps_96 : decode b_Mo_gaps 96 = .ok (.iconst 3, 1) := by decide +kernel
theorem d_Mo_gaps_97 : decode b_Mo_gaps 97 = .ok (.iadd, 1) := by decide +kernel
theorem d_Mo_gaps_98 : decode b_Mo_gaps 98 = .ok (.iaload, 1) := by decide +kernel
theorem d_Mo_gaps_99 : decode b_Mo_gaps 99 = .ok (.iastore, 1) := by decide +kernel
theorem d_Mo_gaps_100 : decode b_Mo_gaps 100 = .ok (.return_, 1) := by decide +kernel
theorem ok_Mo_gaps : OKv y_Mo_gaps b_Mo_gaps 3 none "DeepChannelModel" 1 := ⟨k_1166, k_1165, k_40, k_55, by decide +kernel, by decide +kernel, by decide +kernel⟩
abbrev w_Mo_gaps (cI cJ : ClassId) (qM qM_bytes qM_tells qM_lastCounts : Nat) (M_thrown M_depth M_fill M_half M_pattern M_craft M_begins M_firsts M_seconds M_powers M_logarithms M_forms M_elements M_mixer M_data M_waiting M_master M_counts M_line M_length M_sent M_state M_places M_least M_row M_rowSize M_differ M_marks M_wrongs M_rights M_word M_values M_system M_solved M_wrong : Value) (M_blocks : Int32) (M_lastMaster : Int32) (M_bytes : Nat → Int32) (M_tells : Nat → Int32) (M_lastCounts : Nat → Int32) : va_W := [(qM, .inr (11, [M_thrown, M_depth, M_fill, M_half, M_pattern, M_craft, M_begins, M_firsts, M_seconds, M_powers, M_logarithms, M_forms, M_elements, M_mixer, M_data, M_waiting, M_master, M_counts, M_line, M_length, M_sent, M_state, M_places, M_least, M_row, M_rowSize, M_differ, .int M_blocks, M_marks, M_wrongs, .ref qM_bytes, M_rights, .ref qM_tells, .int M_lastMaster, .ref qM_lastCounts, M_word, M_values, M_system, M_solved, M_wrong])), (qM_bytes, .inl (cI, 4000, .inl M_bytes)), (qM_tells, .inl (cI, 96, .inl M_tells)), (qM_lastCounts, .inl (cI, 8, .inl M_lastCounts))]
def f_Mo_gaps (M_blocks : Int32) (M_lastMaster : Int32) (M_bytes : Nat → Int32) (M_tells : Nat → Int32) (M_lastCounts : Nat → Int32) (x1 : Int32) : Option (Int32 × (Nat → Int32) × (Nat → Int32)) :=
  rdI M_bytes 4000 (x1 + (1 : Int32)) fun v1 =>
  nm ((v1 >>> ((1 : Int32) &&& 31)) &&& (7 : Int32)) fun v2 =>
  rdI M_bytes 4000 (x1 + (2 : Int32)) fun v3 =>
  bd (f_Mo_gap v3 M_lastMaster) fun u5 =>
  nm u5 fun r4 =>
  wrI M_tells 96 (((6 : Int32) * M_blocks) + (3 : Int32)) r4 fun g6 =>
  rdI M_bytes 4000 (x1 + (3 : Int32)) fun v7 =>
  rdI M_lastCounts 8 v2 fun v8 =>
  bd (f_Mo_gap v7 v8) fun u10 =>
  nm u10 fun r9 =>
  wrI g6 96 (((6 : Int32) * M_blocks) + (4 : Int32)) r9 fun g11 =>
  rdI M_bytes 4000 (x1 + (2 : Int32)) fun v12 =>
  rdI M_bytes 4000 (x1 + (3 : Int32)) fun v13 =>
  wrI M_lastCounts 8 v2 v13 fun g14 =>
  some (v12, g11, g14)
set_option maxHeartbeats 4000000 in
set_option maxRecDepth 100000 in
theorem c_Mo_gaps (l : Launch) (D : va_G) (cI cJ : ClassId) (tt : Nat → Nat) (qM qM_bytes qM_tells qM_lastCounts : Nat) (M_thrown M_depth M_fill M_half M_pattern M_craft M_begins M_firsts M_seconds M_powers M_logarithms M_forms M_elements M_mixer M_data M_waiting M_master M_counts M_line M_length M_sent M_state M_places M_least M_row M_rowSize M_differ M_marks M_wrongs M_rights M_word M_values M_system M_solved M_wrong : Value) (sz : Nat) (M_blocks : Int32) (M_lastMaster : Int32) (M_bytes : Nat → Int32) (M_tells : Nat → Int32) (M_lastCounts : Nat → Int32) (x1 : Int32) (M_lastMaster' : Int32) (M_tells' : Nat → Int32) (M_lastCounts' : Nat → Int32) (hm : f_Mo_gaps M_blocks M_lastMaster M_bytes M_tells M_lastCounts x1 = some (M_lastMaster', M_tells', M_lastCounts')) : CTv l y_Mo_gaps b_Mo_gaps 3 none (RM 1 21) D cI cJ tt [.ref qM, .int x1] (w_Mo_gaps cI cJ qM qM_bytes qM_tells qM_lastCounts M_thrown M_depth M_fill M_half M_pattern M_craft M_begins M_firsts M_seconds M_powers M_logarithms M_forms M_elements M_mixer M_data M_waiting M_master M_counts M_line M_length M_sent M_state M_places M_least M_row M_rowSize M_differ M_marks M_wrongs M_rights M_word M_values M_system M_solved M_wrong M_blocks M_lastMaster M_bytes M_tells M_lastCounts) (w_Mo_gaps cI cJ qM qM_bytes qM_tells qM_lastCounts M_thrown M_depth M_fill M_half M_pattern M_craft M_begins M_firsts M_seconds M_powers M_logarithms M_forms M_elements M_mixer M_data M_waiting M_master M_counts M_line M_length M_sent M_state M_places M_least M_row M_rowSize M_differ M_marks M_wrongs M_rights M_word M_values M_system M_solved M_wrong M_blocks M_lastMaster' M_bytes M_tells' M_lastCounts') sz := by
  refine Met.ofW (cc := b_Mo_gaps) (maxL := 3) (ret := none) (by decide) rfl ?_
  intro p e s m args below meth c s₁ B hml hv
  obtain ⟨hargs, hsz, hP, hK, hD0, hE⟩ := hv
  have hx := B.exec
  have hb := B.bytes
  have hr := B.returns
  have hts : ∀ w ∈ TB, w.before args s = true := z_mV s (atoms_spec (ws := WD y_Mo_gaps b_Mo_gaps 3 none) B.pre)
  have hown : s.vm.findClass "DeepChannelModel" = some m.cls := findClass_of_methodNamed B.named
  have hlocks := B.notSynchronized
  subst hsz
  have hD := hD0.self (sz := s.heap.size)
  generalize hAe : va_A (w_Mo_gaps cI cJ qM qM_bytes qM_tells qM_lastCounts M_thrown M_depth M_fill M_half M_pattern M_craft M_begins M_firsts M_seconds M_powers M_logarithms M_forms M_elements M_mixer M_data M_waiting M_master M_counts M_line M_length M_sent M_state M_places M_least M_row M_rowSize M_differ M_marks M_wrongs M_rights M_word M_values M_system M_solved M_wrong M_blocks M_lastMaster M_bytes M_tells M_lastCounts) s.heap.size = A at hD hE ⊢
  have hA : ∀ q : Nat, s.heap.size ≤ q → A q := fun q h => by rw [← hAe]; exact Or.inr h
  have hS : va_S A s.heap s.heap [] := va_S.rf
  refine z_entry (vs := [.ref qM, .int x1]) hargs (Nat.le_of_ble_eq_true rfl) (fun ls hl => ?_)
  have hl : lv_has ls 3 [(0, .ref qM), (1, .int x1)] := hl
  show W p l e (RM 1 21) s m args below meth c s.heap [] 0 0 _ _
  refine z_qi (fun Q0 hQ => ?_)
  have F : CallFix p m c b_Mo_gaps 3 s args TB "DeepChannelModel" := ⟨hx, hb, hml, hown, hts⟩
  unfold f_Mo_gaps at hm
  refine lv_aload_n hx hb d_Mo_gaps_0 rfl (lv_at hl 0 rfl) ?_
  refine va_get (D := D) (ci := 11) (v := .ref qM_bytes) (C := "DeepChannelModel") (T := fT_Mo) (N := 40) hx hb hts u_Mo hown hK hP 0 rfl rfl 30 (by decide) (hts _ k_916) (fun _ h9 => h9) rfl d_Mo_gaps_1 ?_
  refine lv_iload_n hx hb d_Mo_gaps_4 rfl (lv_at hl 1 rfl) ?_
  refine lv_iconst (v := (1 : Int32)) hx hb d_Mo_gaps_5 (by decide) ?_
  refine lv_iadd hx hb d_Mo_gaps_6 ?_
  refine z_iald hm hx hb hK hP 1 rfl d_Mo_gaps_7 (fun v1 hm => ?_)
  refine lv_iconst (v := (1 : Int32)) hx hb d_Mo_gaps_8 (by decide) ?_
  refine lv_ishr hx hb d_Mo_gaps_9 ?_
  refine lv_bipush (v := (7 : Int32)) hx hb d_Mo_gaps_10 (by decide) ?_
  refine lv_iand hx hb d_Mo_gaps_12 ?_
  refine z_nmi hm (fun v2 hm => ?_)
  refine lv_istore_n (lv' := [(2, .int v2), (0, .ref qM), (1, .int x1)]) hx hb d_Mo_gaps_13 rfl hl (by decide) rfl (fun ls hl => ?_)
  refine lv_aload_n hx hb d_Mo_gaps_14 rfl (lv_at hl 1 rfl) ?_
  refine va_get (D := D) (ci := 11) (v := .ref qM_tells) (C := "DeepChannelModel") (T := fT_Mo) (N := 40) hx hb hts u_Mo hown hK hP 0 rfl rfl 32 (by decide) (hts _ k_918) (fun _ h9 => h9) rfl d_Mo_gaps_15 ?_
  refine lv_bipush (v := (6 : Int32)) hx hb d_Mo_gaps_18 (by decide) ?_
  refine lv_aload_n hx hb d_Mo_gaps_20 rfl (lv_at hl 1 rfl) ?_
  refine va_get (D := D) (ci := 11) (v := .int M_blocks) (C := "DeepChannelModel") (T := fT_Mo) (N := 40) hx hb hts u_Mo hown hK hP 0 rfl rfl 27 (by decide) (hts _ k_913) (fun _ h9 => h9) rfl d_Mo_gaps_21 ?_
  refine lv_imul hx hb d_Mo_gaps_24 ?_
  refine lv_iconst (v := (3 : Int32)) hx hb d_Mo_gaps_25 (by decide) ?_
  refine lv_iadd hx hb d_Mo_gaps_26 ?_
  refine lv_aload_n hx hb d_Mo_gaps_27 rfl (lv_at hl 1 rfl) ?_
  refine va_get (D := D) (ci := 11) (v := .ref qM_bytes) (C := "DeepChannelModel") (T := fT_Mo) (N := 40) hx hb hts u_Mo hown hK hP 0 rfl rfl 30 (by decide) (hts _ k_916) (fun _ h9 => h9) rfl d_Mo_gaps_28 ?_
  refine lv_iload_n hx hb d_Mo_gaps_31 rfl (lv_at hl 2 rfl) ?_
  refine lv_iconst (v := (2 : Int32)) hx hb d_Mo_gaps_32 (by decide) ?_
  refine lv_iadd hx hb d_Mo_gaps_33 ?_
  refine z_iald hm hx hb hK hP 1 rfl d_Mo_gaps_34 (fun v3 hm => ?_)
  refine lv_aload_n hx hb d_Mo_gaps_35 rfl (lv_at hl 1 rfl) ?_
  refine va_get (D := D) (ci := 11) (v := .int M_lastMaster) (C := "DeepChannelModel") (T := fT_Mo) (N := 40) hx hb hts u_Mo hown hK hP 0 rfl rfl 33 (by decide) (hts _ k_919) (fun _ h9 => h9) rfl d_Mo_gaps_36 ?_
  obtain ⟨r4, hu, hm⟩ := bd_el hm
  replace hm := nm_1 hm
  refine z_cSi (wc := w_Mo_gap) (wc' := w_Mo_gap) (wr := [(qM, .inr (11, [M_thrown, M_depth, M_fill, M_half, M_pattern, M_craft, M_begins, M_firsts, M_seconds, M_powers, M_logarithms, M_forms, M_elements, M_mixer, M_data, M_waiting, M_master, M_counts, M_line, M_length, M_sent, M_state, M_places, M_least, M_row, M_rowSize, M_differ, .int M_blocks, M_marks, M_wrongs, .ref qM_bytes, M_rights, .ref qM_tells, .int M_lastMaster, .ref qM_lastCounts, M_word, M_values, M_system, M_solved, M_wrong])), (qM_bytes, .inl (cI, 4000, .inl M_bytes)), (qM_tells, .inl (cI, 96, .inl M_tells)), (qM_lastCounts, .inl (cI, 8, .inl M_lastCounts))]) (As := [.int v3, .int M_lastMaster]) (rest := [.int (((6 : Int32) * M_blocks) + (3 : Int32)), .ref qM_tells]) (c_Mo_gap l D cI cJ tt _ v3 M_lastMaster r4 hu) F ok_Mo_gap k_1167 hK hE hP hD hS hA [] [0, 1, 2, 3] rfl rfl (by decide) (by decide) (by decide) ⟨rfl, rfl, Nat.le_of_ble_eq_true rfl, Nat.le_of_ble_eq_true rfl⟩ ⟨Nat.zero_le _, Nat.zero_le _⟩ rfl hl.1 rfl (Nat.le_of_ble_eq_true rfl) d_Mo_gaps_39 (fun H locs hP hD hS => ?_)
  have hP : va_P D classes (w_Mo_gaps cI cJ qM qM_bytes qM_tells qM_lastCounts M_thrown M_depth M_fill M_half M_pattern M_craft M_begins M_firsts M_seconds M_powers M_logarithms M_forms M_elements M_mixer M_data M_waiting M_master M_counts M_line M_length M_sent M_state M_places M_least M_row M_rowSize M_differ M_marks M_wrongs M_rights M_word M_values M_system M_solved M_wrong M_blocks M_lastMaster M_bytes M_tells M_lastCounts) H := hP.sub [0, 1, 2, 3] rfl
  have hD : va_D A (w_Mo_gaps cI cJ qM qM_bytes qM_tells qM_lastCounts M_thrown M_depth M_fill M_half M_pattern M_craft M_begins M_firsts M_seconds M_powers M_logarithms M_forms M_elements M_mixer M_data M_waiting M_master M_counts M_line M_length M_sent M_state M_places M_least M_row M_rowSize M_differ M_marks M_wrongs M_rights M_word M_values M_system M_solved M_wrong M_blocks M_lastMaster M_bytes M_tells M_lastCounts) := hD.sub [0, 1, 2, 3] (by decide) rfl
  refine z_iast hm hx hb hK hP hD hS 2 rfl d_Mo_gaps_42 (fun g6 hm H locs hP hD hS => ?_)
  have hP : va_P D classes (w_Mo_gaps cI cJ qM qM_bytes qM_tells qM_lastCounts M_thrown M_depth M_fill M_half M_pattern M_craft M_begins M_firsts M_seconds M_powers M_logarithms M_forms M_elements M_mixer M_data M_waiting M_master M_counts M_line M_length M_sent M_state M_places M_least M_row M_rowSize M_differ M_marks M_wrongs M_rights M_word M_values M_system M_solved M_wrong M_blocks M_lastMaster M_bytes g6 M_lastCounts) H := hP
  have hD : va_D A (w_Mo_gaps cI cJ qM qM_bytes qM_tells qM_lastCounts M_thrown M_depth M_fill M_half M_pattern M_craft M_begins M_firsts M_seconds M_powers M_logarithms M_forms M_elements M_mixer M_data M_waiting M_master M_counts M_line M_length M_sent M_state M_places M_least M_row M_rowSize M_differ M_marks M_wrongs M_rights M_word M_values M_system M_solved M_wrong M_blocks M_lastMaster M_bytes g6 M_lastCounts) := hD
  refine lv_aload_n hx hb d_Mo_gaps_43 rfl (lv_at hl 1 rfl) ?_
  refine va_get (D := D) (ci := 11) (v := .ref qM_tells) (C := "DeepChannelModel") (T := fT_Mo) (N := 40) hx hb hts u_Mo hown hK hP 0 rfl rfl 32 (by decide) (hts _ k_918) (fun _ h9 => h9) rfl d_Mo_gaps_44 ?_
  refine lv_bipush (v := (6 : Int32)) hx hb d_Mo_gaps_47 (by decide) ?_
  refine lv_aload_n hx hb d_Mo_gaps_49 rfl (lv_at hl 1 rfl) ?_
  refine va_get (D := D) (ci := 11) (v := .int M_blocks) (C := "DeepChannelModel") (T := fT_Mo) (N := 40) hx hb hts u_Mo hown hK hP 0 rfl rfl 27 (by decide) (hts _ k_913) (fun _ h9 => h9) rfl d_Mo_gaps_50 ?_
  refine lv_imul hx hb d_Mo_gaps_53 ?_
  refine lv_iconst (v := (4 : Int32)) hx hb d_Mo_gaps_54 (by decide) ?_
  refine lv_iadd hx hb d_Mo_gaps_55 ?_
  refine lv_aload_n hx hb d_Mo_gaps_56 rfl (lv_at hl 1 rfl) ?_
  refine va_get (D := D) (ci := 11) (v := .ref qM_bytes) (C := "DeepChannelModel") (T := fT_Mo) (N := 40) hx hb hts u_Mo hown hK hP 0 rfl rfl 30 (by decide) (hts _ k_916) (fun _ h9 => h9) rfl d_Mo_gaps_57 ?_
  refine lv_iload_n hx hb d_Mo_gaps_60 rfl (lv_at hl 2 rfl) ?_
  refine lv_iconst (v := (3 : Int32)) hx hb d_Mo_gaps_61 (by decide) ?_
  refine lv_iadd hx hb d_Mo_gaps_62 ?_
  refine z_iald hm hx hb hK hP 1 rfl d_Mo_gaps_63 (fun v7 hm => ?_)
  refine lv_aload_n hx hb d_Mo_gaps_64 rfl (lv_at hl 1 rfl) ?_
  refine va_get (D := D) (ci := 11) (v := .ref qM_lastCounts) (C := "DeepChannelModel") (T := fT_Mo) (N := 40) hx hb hts u_Mo hown hK hP 0 rfl rfl 34 (by decide) (hts _ k_920) (fun _ h9 => h9) rfl d_Mo_gaps_65 ?_
  refine lv_iload_n hx hb d_Mo_gaps_68 rfl (lv_at hl 0 rfl) ?_
  refine z_iald hm hx hb hK hP 3 rfl d_Mo_gaps_69 (fun v8 hm => ?_)
  obtain ⟨r9, hu, hm⟩ := bd_el hm
  replace hm := nm_1 hm
  refine z_cSi (wc := w_Mo_gap) (wc' := w_Mo_gap) (wr := [(qM, .inr (11, [M_thrown, M_depth, M_fill, M_half, M_pattern, M_craft, M_begins, M_firsts, M_seconds, M_powers, M_logarithms, M_forms, M_elements, M_mixer, M_data, M_waiting, M_master, M_counts, M_line, M_length, M_sent, M_state, M_places, M_least, M_row, M_rowSize, M_differ, .int M_blocks, M_marks, M_wrongs, .ref qM_bytes, M_rights, .ref qM_tells, .int M_lastMaster, .ref qM_lastCounts, M_word, M_values, M_system, M_solved, M_wrong])), (qM_bytes, .inl (cI, 4000, .inl M_bytes)), (qM_tells, .inl (cI, 96, .inl g6)), (qM_lastCounts, .inl (cI, 8, .inl M_lastCounts))]) (As := [.int v7, .int v8]) (rest := [.int (((6 : Int32) * M_blocks) + (4 : Int32)), .ref qM_tells]) (c_Mo_gap l D cI cJ tt _ v7 v8 r9 hu) F ok_Mo_gap k_1167 hK hE hP hD hS hA [] [0, 1, 2, 3] rfl rfl (by decide) (by decide) (by decide) ⟨rfl, rfl, Nat.le_of_ble_eq_true rfl, Nat.le_of_ble_eq_true rfl⟩ ⟨Nat.zero_le _, Nat.zero_le _⟩ rfl hl.1 rfl (Nat.le_of_ble_eq_true rfl) d_Mo_gaps_70 (fun H locs hP hD hS => ?_)
  have hP : va_P D classes (w_Mo_gaps cI cJ qM qM_bytes qM_tells qM_lastCounts M_thrown M_depth M_fill M_half M_pattern M_craft M_begins M_firsts M_seconds M_powers M_logarithms M_forms M_elements M_mixer M_data M_waiting M_master M_counts M_line M_length M_sent M_state M_places M_least M_row M_rowSize M_differ M_marks M_wrongs M_rights M_word M_values M_system M_solved M_wrong M_blocks M_lastMaster M_bytes g6 M_lastCounts) H := hP.sub [0, 1, 2, 3] rfl
  have hD : va_D A (w_Mo_gaps cI cJ qM qM_bytes qM_tells qM_lastCounts M_thrown M_depth M_fill M_half M_pattern M_craft M_begins M_firsts M_seconds M_powers M_logarithms M_forms M_elements M_mixer M_data M_waiting M_master M_counts M_line M_length M_sent M_state M_places M_least M_row M_rowSize M_differ M_marks M_wrongs M_rights M_word M_values M_system M_solved M_wrong M_blocks M_lastMaster M_bytes g6 M_lastCounts) := hD.sub [0, 1, 2, 3] (by decide) rfl
  refine z_iast hm hx hb hK hP hD hS 2 rfl d_Mo_gaps_73 (fun g11 hm H locs hP hD hS => ?_)
  have hP : va_P D classes (w_Mo_gaps cI cJ qM qM_bytes qM_tells qM_lastCounts M_thrown M_depth M_fill M_half M_pattern M_craft M_begins M_firsts M_seconds M_powers M_logarithms M_forms M_elements M_mixer M_data M_waiting M_master M_counts M_line M_length M_sent M_state M_places M_least M_row M_rowSize M_differ M_marks M_wrongs M_rights M_word M_values M_system M_solved M_wrong M_blocks M_lastMaster M_bytes g11 M_lastCounts) H := hP
  have hD : va_D A (w_Mo_gaps cI cJ qM qM_bytes qM_tells qM_lastCounts M_thrown M_depth M_fill M_half M_pattern M_craft M_begins M_firsts M_seconds M_powers M_logarithms M_forms M_elements M_mixer M_data M_waiting M_master M_counts M_line M_length M_sent M_state M_places M_least M_row M_rowSize M_differ M_marks M_wrongs M_rights M_word M_values M_system M_solved M_wrong M_blocks M_lastMaster M_bytes g11 M_lastCounts) := hD
  refine lv_aload_n hx hb d_Mo_gaps_74 rfl (lv_at hl 1 rfl) ?_
  refine lv_aload_n hx hb d_Mo_gaps_75 rfl (lv_at hl 1 rfl) ?_
  refine va_get (D := D) (ci := 11) (v := .ref qM_bytes) (C := "DeepChannelModel") (T := fT_Mo) (N := 40) hx hb hts u_Mo hown hK hP 0 rfl rfl 30 (by decide) (hts _ k_916) (fun _ h9 => h9) rfl d_Mo_gaps_76 ?_
  refine lv_iload_n hx hb d_Mo_gaps_79 rfl (lv_at hl 2 rfl) ?_
  refine lv_iconst (v := (2 : Int32)) hx hb d_Mo_gaps_80 (by decide) ?_
  refine lv_iadd hx hb d_Mo_gaps_81 ?_
  refine z_iald hm hx hb hK hP 1 rfl d_Mo_gaps_82 (fun v12 hm => ?_)
  refine va_put (D := D) (ci := 11) (v := .int v12) (ty := .int) (C := "DeepChannelModel") (T := fT_Mo) (N := 40) hx hb hts u_Mo fY_Mo fK_Mo fN_Mo hown hK hP hD hS 0 rfl rfl 33 (by decide) (hts _ k_919) (fun _ h9 => h9) rfl (by decide +kernel) rfl rfl (Nat.le_of_ble_eq_true rfl) d_Mo_gaps_83 (fun H locs hP hD hS => ?_)
  have hP : va_P D classes (w_Mo_gaps cI cJ qM qM_bytes qM_tells qM_lastCounts M_thrown M_depth M_fill M_half M_pattern M_craft M_begins M_firsts M_seconds M_powers M_logarithms M_forms M_elements M_mixer M_data M_waiting M_master M_counts M_line M_length M_sent M_state M_places M_least M_row M_rowSize M_differ M_marks M_wrongs M_rights M_word M_values M_system M_solved M_wrong M_blocks v12 M_bytes g11 M_lastCounts) H := hP
  have hD : va_D A (w_Mo_gaps cI cJ qM qM_bytes qM_tells qM_lastCounts M_thrown M_depth M_fill M_half M_pattern M_craft M_begins M_firsts M_seconds M_powers M_logarithms M_forms M_elements M_mixer M_data M_waiting M_master M_counts M_line M_length M_sent M_state M_places M_least M_row M_rowSize M_differ M_marks M_wrongs M_rights M_word M_values M_system M_solved M_wrong M_blocks v12 M_bytes g11 M_lastCounts) := hD
  refine lv_aload_n hx hb d_Mo_gaps_86 rfl (lv_at hl 1 rfl) ?_
  refine va_get (D := D) (ci := 11) (v := .ref qM_lastCounts) (C := "DeepChannelModel") (T := fT_Mo) (N := 40) hx hb hts u_Mo hown hK hP 0 rfl rfl 34 (by decide) (hts _ k_920) (fun _ h9 => h9) rfl d_Mo_gaps_87 ?_
  refine lv_iload_n hx hb d_Mo_gaps_90 rfl (lv_at hl 0 rfl) ?_
  refine lv_aload_n hx hb d_Mo_gaps_91 rfl (lv_at hl 1 rfl) ?_
  refine va_get (D := D) (ci := 11) (v := .ref qM_bytes) (C := "DeepChannelModel") (T := fT_Mo) (N := 40) hx hb hts u_Mo hown hK hP 0 rfl rfl 30 (by decide) (hts _ k_916) (fun _ h9 => h9) rfl d_Mo_gaps_92 ?_
  refine lv_iload_n hx hb d_Mo_gaps_95 rfl (lv_at hl 2 rfl) ?_
  refine lv_iconst (v := (3 : Int32)) hx hb d_Mo_gaps_96 (by decide) ?_
  refine lv_iadd hx hb d_Mo_gaps_97 ?_
  refine z_iald hm hx hb hK hP 1 rfl d_Mo_gaps_98 (fun v13 hm => ?_)
  refine z_iast hm hx hb hK hP hD hS 3 rfl d_Mo_gaps_99 (fun g14 hm H locs hP hD hS => ?_)
  have hP : va_P D classes (w_Mo_gaps cI cJ qM qM_bytes qM_tells qM_lastCounts M_thrown M_depth M_fill M_half M_pattern M_craft M_begins M_firsts M_seconds M_powers M_logarithms M_forms M_elements M_mixer M_data M_waiting M_master M_counts M_line M_length M_sent M_state M_places M_least M_row M_rowSize M_differ M_marks M_wrongs M_rights M_word M_values M_system M_solved M_wrong M_blocks v12 M_bytes g11 g14) H := hP
  have hD : va_D A (w_Mo_gaps cI cJ qM qM_bytes qM_tells qM_lastCounts M_thrown M_depth M_fill M_half M_pattern M_craft M_begins M_firsts M_seconds M_powers M_logarithms M_forms M_elements M_mixer M_data M_waiting M_master M_counts M_line M_length M_sent M_state M_places M_least M_row M_rowSize M_differ M_marks M_wrongs M_rights M_word M_values M_system M_solved M_wrong M_blocks v12 M_bytes g11 g14) := hD
  cases hm
  exact z_qo hQ (z_vret hr hx hb hlocks hK hP hD hS d_Mo_gaps_100)
-- DeepChannelModel.take(I)V
abbrev b_Mo_take : ByteArray := prog_13_method_42_code
abbrev y_Mo_take : MethodName := ⟨"DeepChannelModel", "take", "(I)V"⟩
theorem d_Mo_take_0 : decode b_Mo_take 0 = .ok (.sipush 250, 3) := by decide +kernel
theorem d_Mo_take_3 : decode b_Mo_take 3 = .ok (.aload_n 0, 1) := by decide +kernel
theorem d_Mo_take_4 : decode b_Mo_take 4 = .ok (.getfield 135, 3) := by decide +kernel
theorem d_Mo_take_7 : decode b_Mo_take 7 = .ok (.imul, 1) := by decide +kernel
theorem d_Mo_take_8 : decode b_Mo_take 8 = .ok (.istore_n 2, 1) := by decide +kernel
theorem d_Mo_take_9 : decode b_Mo_take 9 = .ok (.aload_n 0, 1) := by decide +kernel
theorem d_Mo_take_10 : decode b_Mo_take 10 = .ok (.getfield 63, 3) := by decide +kernel
theorem d_Mo_take_13 : decode b_Mo_take 13 = .ok (.aload_n 0, 1) := by decide +kernel
theorem d_Mo_take_14 : decode b_Mo_take 14 = .ok (.getfield 135, 3) := by decide +kernel
theorem d_Mo_take_17 : decode b_Mo_take 17 = .ok (.iload_n 1, 1) := by decide +kernel
theorem d_Mo_take_18 : decode b_Mo_take 18 = .ok (.bipush 32, 2) := by decide +kernel
theorem d_Mo_take_20 : decode b_Mo_take 20 = .ok (.iadd, 1) := by decide +kernel
theorem d_Mo_take_21 : decode b_Mo_take 21 = .ok (.iastore, 1) := by decide +kernel
theorem d_Mo_take_22 : decode b_Mo_take 22 = .ok (.aload_n 0, 1) := by decide +kernel
theorem d_Mo_take_23 : decode b_Mo_take 23 = .ok (.getfield 66, 3) := by decide +kernel
theorem d_Mo_take_26 : decode b_Mo_take 26 = .ok (.aload_n 0, 1) := by decide +kernel
theorem d_Mo_take_27 : decode b_Mo_take 27 = .ok (.getfield 135, 3) := by decide +kernel
theorem d_Mo_take_30 : decode b_Mo_take 30 = .ok (.aload_n 0, 1) := by decide +kernel
theorem d_Mo_take_31 : decode b_Mo_take 31 = .ok (.iload_n 1, 1) := by decide +kernel
theorem d_Mo_take_32 : decode b_Mo_take 32 = .ok (.invokevirtual 225, 3) := by decide +kernel
theorem d_Mo_take_35 : decode b_Mo_take 35 = .ok (.iastore, 1) := by decide +kernel
theorem d_Mo_take_36 : decode b_Mo_take 36 = .ok (.iconst 0, 1) := by decide +kernel
theorem d_Mo_take_37 : decode b_Mo_take 37 = .ok (.istore_n 3, 1) := by decide +kernel
theorem d_Mo_take_38 : decode b_Mo_take 38 = .ok (.iload_n 3, 1) := by decide +kernel
theorem d_Mo_take_39 : decode b_Mo_take 39 = .ok (.aload_n 0, 1) := by decide +kernel
theorem d_Mo_take_40 : decode b_Mo_take 40 = .ok (.invokevirtual 151, 3) := by decide +kernel
theorem d_Mo_take_43 : decode b_Mo_take 43 = .ok (.if_icmp .ge 69, 3) := by decide +kernel
theorem d_Mo_take_46 : decode b_Mo_take 46 = .ok (.iconst 0, 1) := by decide +kernel
theorem d_Mo_take_47 : decode b_Mo_take 47 = .ok (.istore 4, 2) := by decide +kernel
theorem d_Mo_take_49 : decode b_Mo_take 49 = .ok (.iconst 0, 1) := by decide +kernel
theorem d_Mo_take_50 : decode b_Mo_take 50 = .ok (.istore 5, 2) := by decide +kernel
theorem d_Mo_take_52 : decode b_Mo_take 52 = .ok (.iload 5, 2) := by decide +kernel
theorem d_Mo_take_54 : decode b_Mo_take 54 = .ok (.bipush 8, 2) := by decide +kernel
theorem d_Mo_take_56 : decode b_Mo_take 56 = .ok (.if_icmp .ge 33, 3) := by decide +kernel
theorem d_Mo_take_59 : decode b_Mo_take 59 = .ok (.iconst 2, 1) := by decide +kernel
theorem d_Mo_take_60 : decode b_Mo_take 60 = .ok (.iload 4, 2) := by decide +kernel
theorem d_Mo_take_62 : decode b_Mo_take 62 = .ok (.imul, 1) := by decide +kernel
theorem d_Mo_take_63 : decode b_Mo_take 63 = .ok (.aload_n 0, 1) := by decide +kernel
theorem d_Mo_take_64 : decode b_Mo_take 64 = .ok (.getfield 60, 3) := by decide +kernel
theorem d_Mo_take_67 : decode b_Mo_take 67 = .ok (.iload_n 1, 1) := by decide +kernel
theorem d_Mo_take_68 : decode b_Mo_take 68 = .ok (.bipush 32, 2) := by decide +kernel
theorem d_Mo_take_70 : decode b_Mo_take 70 = .ok (.iadd, 1) := by decide +kernel
theorem d_Mo_take_71 : decode b_Mo_take 71 = .ok (.bipush 8, 2) := by decide +kernel
theorem d_Mo_take_73 : decode b_Mo_take 73 = .ok (.iload_n 3, 1) := by decide +kernel
theorem d_Mo_take_74 : decode b_Mo_take 74 = .ok (.imul, 1) := by decide +kernel
theorem d_Mo_take_75 : decode b_Mo_take 75 = .ok (.iadd, 1) := by decide +kernel
theorem d_Mo_take_76 : decode b_Mo_take 76 = .ok (.iload 5, 2) := by decide +kernel
theorem d_Mo_take_78 : decode b_Mo_take 78 = .ok (.iadd, 1) := by decide +kernel
theorem d_Mo_take_79 : decode b_Mo_take 79 = .ok (.iaload, 1) := by decide +kernel
theorem d_Mo_take_80 : decode b_Mo_take 80 = .ok (.iadd, 1) := by decide +kernel
theorem d_Mo_take_81 : decode b_Mo_take 81 = .ok (.istore 4, 2) := by decide +kernel
theorem d_Mo_take_83 : decode b_Mo_take 83 = .ok (.iinc 5 1, 3) := by decide +kernel
theorem d_Mo_take_86 : decode b_Mo_take 86 = .ok (.goto (-34), 3) := by decide +kernel
theorem d_Mo_take_89 : decode b_Mo_take 89 = .ok (.aload_n 0, 1) := by decide +kernel
theorem d_Mo_take_90 : decode b_Mo_take 90 = .ok (.getfield 69, 3) := by decide +kernel
theorem d_Mo_take_93 : decode b_Mo_take 93 = .ok (.iload_n 2, 1) := by decide +kernel
theorem d_Mo_take_94 : decode b_Mo_take 94 = .ok (.iload_n 3, 1) := by decide +kernel
theorem d_Mo_take_95 : decode b_Mo_take 95 = .ok (.iadd, 1) := by decide +kernel
theorem d_Mo_take_96 : decode b_Mo_take 96 = .ok (.iload 4, 2) := by decide +kernel
theorem d_Mo_take_98 : decode b_Mo_take 98 = .ok (.aload_n 0, 1) := by decide +kernel
theorem d_Mo_take_99 : decode b_Mo_take 99 = .ok (.getfield 41, 3) := by decide +kernel
theorem d_Mo_take_102 : decode b_Mo_take 102 = .ok (.iload_n 3, 1) := by decide +kernel
theorem d_Mo_take_103 : decode b_Mo_take 103 = .ok (.iaload, 1) := by decide +kernel
theorem d_Mo_take_104 : decode b_Mo_take 104 = .ok (.ixor, 1) := by decide +kernel
theorem d_Mo_take_105 : decode b_Mo_take 105 = .ok (.iastore, 1) := by decide +kernel
theorem d_Mo_take_106 : decode b_Mo_take 106 = .ok (.iinc 3 1, 3) := by decide +kernel
theorem d_Mo_take_109 : decode b_Mo_take 109 = .ok (.goto (-71), 3) := by decide +kernel
theorem d_Mo_take_112 : decode b_Mo_take 112 = .ok (.iconst 0, 1) := by decide +kernel
theorem d_Mo_take_113 : decode b_Mo_take 113 = .ok (.istore_n 3, 1) := by decide +kernel
theorem d_Mo_take_114 : decode b_Mo_take 114 = .ok (.iconst 0, 1) := by decide +kernel
theorem d_Mo_take_115 : decode b_Mo_take 115 = .ok (.istore 4, 2) := by decide +kernel
theorem d_Mo_take_117 : decode b_Mo_take 117 = .ok (.iconst 0, 1) := by decide +kernel
theorem d_Mo_take_118 : decode b_Mo_take 118 = .ok (.istore 5, 2) := by decide +kernel
theorem d_Mo_take_120 : decode b_Mo_take 120 = .ok (.iload 5, 2) := by decide +kernel
theorem d_Mo_take_122 : decode b_Mo_take 122 = .ok (.aload_n 0, 1) := by decide +kernel
theorem d_Mo_take_123 : decode b_Mo_take 123 = .ok (.getfield 7, 3) := by decide +kernel
theorem d_Mo_take_126 : decode b_Mo_take 126 = .ok (.if_icmp .ge 64, 3) := by decide +kernel
theorem d_Mo_take_129 : decode b_Mo_take 129 = .ok (.aload_n 0, 1) := by decide +kernel
theorem d_Mo_take_130 : decode b_Mo_take 130 = .ok (.iload_n 2, 1) := by decide +kernel
theorem d_Mo_take_131 : decode b_Mo_take 131 = .ok (.iload 5, 2) := by decide +kernel
theorem d_Mo_take_133 : decode b_Mo_take 133 = .ok (.invokevirtual 228, 3) := by decide +kernel
theorem d_Mo_take_136 : decode b_Mo_take 136 = .ok (.istore 6, 2) := by decide +kernel
theorem d_Mo_take_138 : decode b_Mo_take 138 = .ok (.aload_n 0, 1) := by decide +kernel
theorem d_Mo_take_139 : decode b_Mo_take 139 = .ok (.getfield 72, 3) := by decide +kernel
theorem d_Mo_take_142 : decode b_Mo_take 142 = .ok (.bipush 8, 2) := by decide +kernel
theorem d_Mo_take_144 : decode b_Mo_take 144 = .ok (.aload_n 0, 1) := by decide +kernel
theorem d_Mo_take_145 : decode b_Mo_take 145 = .ok (.getfield 135, 3) := by decide +kernel
theorem d_Mo_take_148 : decode b_Mo_take 148 = .ok (.imul, 1) := by decide +kernel
theorem d_Mo_take_149 : decode b_Mo_take 149 = .ok (.iload 5, 2) := by decide +kernel
theorem d_Mo_take_151 : decode b_Mo_take 151 = .ok (.iadd, 1) := by decide +kernel
theorem d_Mo_take_152 : decode b_Mo_take 152 = .ok (.iload 6, 2) := by decide +kernel
theorem d_Mo_take_154 : decode b_Mo_take 154 = .ok (.iastore, 1) := by decide +kernel
theorem d_Mo_take_155 : decode b_Mo_take 155 = .ok (.iload_n 3, 1) := by decide +kernel
theorem d_Mo_take_156 : decode b_Mo_take 156 = .ok (.iload 6, 2) := by decide +kernel
theorem d_Mo_take_158 : decode b_Mo_take 158 = .ok (.ifCond .ge 7, 3) := by decide +kernel
theorem d_Mo_take_161 : decode b_Mo_take 161 = .ok (.iconst 1, 1) := by decide +kernel
theorem d_Mo_take_162 : decode b_Mo_take 162 = .ok (.goto 4, 3) := by decide +kernel
theorem d_Mo_take_165 : decode b_Mo_take 165 = .ok (.iconst 0, 1) := by decide +kernel
theorem d_Mo_take_166 : decode b_Mo_take 166 = .ok (.iadd, 1) := by decide +kernel
theorem d_Mo_take_167 : decode b_Mo_take 167 = .ok (.istore_n 3, 1) := by decide +kernel
theorem d_Mo_take_168 : decode b_Mo_take 168 = .ok (.iload 4, 2) := by decide +kernel
theorem d_Mo_take_170 : decode b_Mo_take 170 = .ok (.iload 6, 2) := by decide +kernel
theorem d_Mo_take_172 : decode b_Mo_take 172 = .ok (.ifCond .ge 7, 3) := by decide +kernel
theorem d_Mo_take_175 : decode b_Mo_take 175 = .ok (.iconst 0, 1) := by decide +kernel
theorem d_Mo_take_176 : decode b_Mo_take 176 = .ok (.goto 5, 3) := by decide +kernel
theorem d_Mo_take_179 : decode b_Mo_take 179 = .ok (.iload 6, 2) := by decide +kernel
theorem d_Mo_take_181 : decode b_Mo_take 181 = .ok (.iadd, 1) := by decide +kernel
theorem d_Mo_take_182 : decode b_Mo_take 182 = .ok (.istore 4, 2) := by decide +kernel
theorem d_Mo_take_184 : decode b_Mo_take 184 = .ok (.iinc 5 1, 3) := by decide +kernel
theorem d_Mo_take_187 : decode b_Mo_take 187 = .ok (.goto (-67), 3) := by decide +kernel
theorem d_Mo_take_190 : decode b_Mo_take 190 = .ok (.ldc 171, 2) := by decide +kernel
theorem d_Mo_take_192 : decode b_Mo_take 192 = .ok (.istore 5, 2) := by decide +kernel
theorem d_Mo_take_194 : decode b_Mo_take 194 = .ok (.iconst 0, 1) := by decide +kernel
theorem d_Mo_take_195 : decode b_Mo_take 195 = .ok (.istore 6, 2) := by decide +kernel
theorem d_Mo_take_197 : decode b_Mo_take 197 = .ok (.iload 6, 2) := by decide +kernel
theorem d_Mo_take_199 : decode b_Mo_take 199 = .ok (.aload_n 0, 1) := by decide +kernel
theorem d_Mo_take_200 : decode b_Mo_take 200 = .ok (.invokevirtual 148, 3) := by decide +kernel
theorem d_Mo_take_203 : decode b_Mo_take 203 = .ok (.iconst 2, 1) := by decide +kernel
theorem d_Mo_take_204 : decode b_Mo_take 204 = .ok (.isub, 1) := by decide +kernel
theorem d_Mo_take_205 : decode b_Mo_take 205 = .ok (.if_icmp .ge 25, 3) := by decide +kernel
theorem d_Mo_take_208 : decode b_Mo_take 208 = .ok (.iload 5, 2) := by decide +kernel
theorem d_Mo_take_210 : decode b_Mo_take 210 = .ok (.aload_n 0, 1) := by decide +kernel
theorem d_Mo_take_211 : decode b_Mo_take 211 = .ok (.getfield 69, 3) := by decide +kernel
theorem d_Mo_take_214 : decode b_Mo_take 214 = .ok (.iload_n 2, 1) := by decide +kernel
theorem d_Mo_take_215 : decode b_Mo_take 215 = .ok (.iload 6, 2) := by decide +kernel
theorem d_Mo_take_217 : decode b_Mo_take 217 = .ok (.iadd, 1) := by decide +kernel
theorem d_Mo_take_218 : decode b_Mo_take 218 = .ok (.iaload, 1) := by decide +kernel
theorem d_Mo_take_219 : decode b_Mo_take 219 = .ok (.invokestatic 192, 3) := by decide +kernel
theorem d_Mo_take_222 : decode b_Mo_take 222 = .ok (.istore 5, 2) := by decide +kernel
theorem d_Mo_take_224 : decode b_Mo_take 224 = .ok (.iinc 6 1, 3) := by decide +kernel
theorem d_Mo_take_227 : decode b_Mo_take 227 = .ok (.goto (-30), 3) := by decide +kernel
theorem d_Mo_take_230 : decode b_Mo_take 230 = .ok (.iload_n 3, 1) := by decide +kernel
theorem d_Mo_take_231 : decode b_Mo_take 231 = .ok (.ifCond .ne 43, 3) := by decide +kernel
theorem d_Mo_take_234 : decode b_Mo_take 234 = .ok (.iload 5, 2) := by decide +kernel
theorem d_Mo_take_236 : decode b_Mo_take 236 = .ok (.sipush 256, 3) := by decide +kernel
theorem d_Mo_take_239 : decode b_Mo_take 239 = .ok (.aload_n 0, 1) := by decide +kernel
theorem d_Mo_take_240 : decode b_Mo_take 240 = .ok (.getfield 69, 3) := by decide +kernel
theorem d_Mo_take_243 : decode b_Mo_take 243 = .ok (.iload_n 2, 1) := by decide +kernel
theorem d_Mo_take_244 : decode b_Mo_take 244 = .ok (.aload_n 0, 1) := by decide +kernel
theorem d_Mo_take_245 : decode b_Mo_take 245 = .ok (.invokevirtual 148, 3) := by decide +kernel
theorem d_Mo_take_248 : decode b_Mo_take 248 = .ok (.iadd, 1) := by decide +kernel
theorem d_Mo_take_249 : decode b_Mo_take 249 = .ok (.iconst 2, 1) := by decide +kernel
theorem d_Mo_take_250 : decode b_Mo_take 250 = .ok (.isub, 1) := by decide +kernel
theorem d_Mo_take_251 : decode b_Mo_take 251 = .ok (.iaload, 1) := by decide +kernel
theorem d_Mo_take_252 : decode b_Mo_take 252 = .ok (.imul, 1) := by decide +kernel
theorem d_Mo_take_253 : decode b_Mo_take 253 = .ok (.aload_n 0, 1) := by decide +kernel
theorem d_Mo_take_254 : decode b_Mo_take 254 = .ok (.getfield 69, 3) := by decide +kernel
theorem d_Mo_take_257 : decode b_Mo_take 257 = .ok (.iload_n 2, 1) := by decide +kernel
theorem d_Mo_take_258 : decode b_Mo_take 258 = .ok (.aload_n 0, 1) := by decide +kernel
theorem d_Mo_take_259 : decode b_Mo_take 259 = .ok (.invokevirtual 148, 3) := by decide +kernel
theorem d_Mo_take_262 : decode b_Mo_take 262 = .ok (.iadd, 1) := by decide +kernel
theorem d_Mo_take_263 : decode b_Mo_take 263 = .ok (.iconst 1, 1) := by decide +kernel
theorem d_Mo_take_264 : decode b_Mo_take 264 = .ok (.isub, 1) := by decide +kernel
theorem d_Mo_take_265 : decode b_Mo_take 265 = .ok (.iaload, 1) := by decide +kernel
theorem d_Mo_take_266 : decode b_Mo_take 266 = .ok (.iadd, 1) := by decide +kernel
theorem d_Mo_take_267 : decode b_Mo_take 267 = .ok (.if_icmp .ne 7, 3) := by decide +kernel
theorem d_Mo_take_270 : decode b_Mo_take 270 = .ok (.iconst 1, 1) := by decide +kernel
theorem d_Mo_take_271 : decode b_Mo_take 271 = .ok (.goto 4, 3) := by decide +kernel
theorem d_Mo_take_274 : decode b_Mo_take 274 = .ok (.iconst 0, 1) := by decide +kernel
theorem d_Mo_take_275 : decode b_Mo_take 275 = .ok (.istore 6, 2) := by decide +kernel
theorem d_Mo_take_277 : decode b_Mo_take 277 = .ok (.aload_n 0, 1) := by decide +kernel
theorem d_Mo_take_278 : decode b_Mo_take 278 = .ok (.getfield 75, 3) := by decide +kernel
theorem d_Mo_take_281 : decode b_Mo_take 281 = .ok (.bipush 6, 2) := by decide +kernel
theorem d_Mo_take_283 : decode b_Mo_take 283 = .ok (.aload_n 0, 1) := by decide +kernel
theorem d_Mo_take_284 : decode b_Mo_take 284 = .ok (.getfield 135, 3) := by decide +kernel
theorem d_Mo_take_287 : decode b_Mo_take 287 = .ok (.imul, 1) := by decide +kernel
theorem d_Mo_take_288 : decode b_Mo_take 288 = .ok (.iload_n 3, 1) := by decide +kernel
theorem d_Mo_take_289 : decode b_Mo_take 289 = .ok (.iastore, 1) := by decide +kernel
theorem d_Mo_take_290 : decode b_Mo_take 290 = .ok (.aload_n 0, 1) := by decide +kernel
theorem d_Mo_take_291 : decode b_Mo_take 291 = .ok (.getfield 75, 3) := by decide +kernel
theorem d_Mo_take_294 : decode b_Mo_take 294 = .ok (.bipush 6, 2) := by decide +kernel
theorem d_Mo_take_296 : decode b_Mo_take 296 = .ok (.aload_n 0, 1) := by decide +kernel
theorem d_Mo_take_297 : decode b_Mo_take 297 = .ok (.getfield 135, 3) := by decide +kernel
theorem d_Mo_take_300 : decode b_Mo_take 300 = .ok (.imul, 1) := by decide +kernel
theorem d_Mo_take_301 : decode b_Mo_take 301 = .ok (.iconst 1, 1) := by decide +kernel
theorem d_Mo_take_302 : decode b_Mo_take 302 = .ok (.iadd, 1) := by decide +kernel
theorem d_Mo_take_303 : decode b_Mo_take 303 = .ok (.iload 4, 2) := by decide +kernel
theorem d_Mo_take_305 : decode b_Mo_take 305 = .ok (.iastore, 1) := by decide +kernel
theorem d_Mo_take_306 : decode b_Mo_take 306 = .ok (.aload_n 0, 1) := by decide +kernel
theorem d_Mo_take_307 : decode b_Mo_take 307 = .ok (.getfield 75, 3) := by decide +kernel
theorem d_Mo_take_310 : decode b_Mo_take 310 = .ok (.bipush 6, 2) := by decide +kernel
theorem d_Mo_take_312 : decode b_Mo_take 312 = .ok (.aload_n 0, 1) := by decide +kernel
theorem d_Mo_take_313 : decode b_Mo_take 313 = .ok (.getfield 135, 3) := by decide +kernel
theorem d_Mo_take_316 : decode b_Mo_take 316 = .ok (.imul, 1) := by decide +kernel
theorem d_Mo_take_317 : decode b_Mo_take 317 = .ok (.iconst 2, 1) := by decide +kernel
theorem d_Mo_take_318 : decode b_Mo_take 318 = .ok (.iadd, 1) := by decide +kernel
theorem d_Mo_take_319 : decode b_Mo_take 319 = .ok (.iload 6, 2) := by decide +kernel
theorem d_Mo_take_321 : decode b_Mo_take 321 = .ok (.ifCond .eq 7, 3) := by decide +kernel
theorem d_Mo_take_324 : decode b_Mo_take 324 = .ok (.iconst 1, 1) := by decide +kernel
theorem d_Mo_take_325 : decode b_Mo_take 325 = .ok (.goto 4, 3) := by decide +kernel
theorem d_Mo_take_328 : decode b_Mo_take 328 = .ok (.iconst 0, 1) := by decide +kernel
theorem d_Mo_take_329 : decode b_Mo_take 329 = .ok (.iastore, 1) := by decide +kernel
theorem d_Mo_take_330 : decode b_Mo_take 330 = .ok (.iload 6, 2) := by decide +kernel
theorem d_Mo_take_332 : decode b_Mo_take 332 = .ok (.ifCond .eq 8, 3) := by decide +kernel
theorem d_Mo_take_335 : decode b_Mo_take 335 = .ok (.aload_n 0, 1) := by decide +kernel
theorem d_Mo_take_336 : decode b_Mo_take 336 = .ok (.iload_n 2, 1) := by decide +kernel
theorem d_Mo_take_337 : decode b_Mo_take 337 = .ok (.invokevirtual 231, 3) := by decide +kernel
theorem d_Mo_take_340 : decode b_Mo_take 340 = .ok (.aload_n 0, 1) := by decide +kernel
theorem d_Mo_take_341 : decode b_Mo_take 341 = .ok (.dup, 1) := by decide +kernel
theorem d_Mo_take_342 : decode b_Mo_take 342 = .ok (.getfield 135, 3) := by decide +kernel
theorem d_Mo_take_345 : decode b_Mo_take 345 = .ok (.iconst 1, 1) := by decide +kernel
theorem d_Mo_take_346 : decode b_Mo_take 346 = .ok (.iadd, 1) := by decide +kernel
theorem d_Mo_take_347 : decode b_Mo_take 347 = .ok (.putfield 135, 3) := by decide +kernel
theorem d_Mo_take_350 : decode b_Mo_take 350 = .ok (.return_, 1) := by decide +kernel
theorem ok_Mo_take : OKv y_Mo_take b_Mo_take 7 none "DeepChannelModel" 1 := ⟨k_1150, k_1149, k_36, k_55, by decide +kernel, by decide +kernel, by decide +kernel⟩
abbrev w_Mo_take (cI cJ : ClassId) (qM qM_marks qM_row qM_wrongs qM_tells qM_bytes qM_lastCounts qM_elements qM_word qM_powers qM_values qM_logarithms qM_forms qM_system qM_solved qM_wrong qM_rights qM_mixer : Nat) (M_thrown M_pattern M_craft M_begins M_firsts M_seconds M_data M_waiting M_master M_counts M_line M_length M_sent M_state M_places M_least M_rowSize M_differ : Value) (M_depth : Int32) (M_fill : Int32) (M_half : Int32) (M_blocks : Int32) (M_lastMaster : Int32) (M_marks : Nat → Int32) (M_row : Nat → Int32) (M_wrongs : Nat → Int32) (M_tells : Nat → Int32) (M_bytes : Nat → Int32) (M_lastCounts : Nat → Int32) (M_elements : Nat → Int32) (M_word : Nat → Int32) (M_powers : Nat → Int32) (M_values : Nat → Int32) (M_logarithms : Nat → Int32) (M_forms : Nat → Int32) (M_system : Nat → Int32) (M_solved : Nat → Int32) (M_wrong : Nat → Int32) (M_rights : Nat → Int32) (M_mixer : Nat → Int32) : va_W := [(qM, .inr (11, [M_thrown, .int M_depth, .int M_fill, .int M_half, M_pattern, M_craft, M_begins, M_firsts, M_seconds, .ref qM_powers, .ref qM_logarithms, .ref qM_forms, .ref qM_elements, .ref qM_mixer, M_data, M_waiting, M_master, M_counts, M_line, M_length, M_sent, M_state, M_places, M_least, .ref qM_row, M_rowSize, M_differ, .int M_blocks, .ref qM_marks, .ref qM_wrongs, .ref qM_bytes, .ref qM_rights, .ref qM_tells, .int M_lastMaster, .ref qM_lastCounts, .ref qM_word, .ref qM_values, .ref qM_system, .ref qM_solved, .ref qM_wrong])), (qM_marks, .inl (cI, 16, .inl M_marks)), (qM_row, .inl (cI, 3600, .inl M_row)), (qM_wrongs, .inl (cI, 16, .inl M_wrongs)), (qM_tells, .inl (cI, 96, .inl M_tells)), (qM_bytes, .inl (cI, 4000, .inl M_bytes)), (qM_lastCounts, .inl (cI, 8, .inl M_lastCounts)), (qM_elements, .inl (cI, 256, .inl M_elements)), (qM_word, .inl (cI, 255, .inl M_word)), (qM_powers, .inl (cI, 255, .inl M_powers)), (qM_values, .inl (cI, 32, .inl M_values)), (qM_logarithms, .inl (cI, 256, .inl M_logarithms)), (qM_forms, .inl (cI, 256, .inl M_forms)), (qM_system, .inl (cI, 1056, .inl M_system)), (qM_solved, .inl (cI, 32, .inl M_solved)), (qM_wrong, .inl (cI, 16, .inl M_wrong)), (qM_rights, .inl (cI, 128, .inl M_rights)), (qM_mixer, .inl (cI, 250, .inl M_mixer))]
def f_Mo_take_340  (M_blocks : Int32) (M_lastMaster : Int32) (M_marks : Nat → Int32) (M_wrongs : Nat → Int32) (M_tells : Nat → Int32) (M_bytes : Nat → Int32) (M_lastCounts : Nat → Int32) (M_word : Nat → Int32) (M_values : Nat → Int32) (M_system : Nat → Int32) (M_solved : Nat → Int32) (M_wrong : Nat → Int32) (M_rights : Nat → Int32) : Option (Int32 × Int32 × (Nat → Int32) × (Nat → Int32) × (Nat → Int32) × (Nat → Int32) × (Nat → Int32) × (Nat → Int32) × (Nat → Int32) × (Nat → Int32) × (Nat → Int32) × (Nat → Int32) × (Nat → Int32)) :=
  nm (M_blocks + (1 : Int32)) fun v1 =>
  some (v1, M_lastMaster, M_marks, M_wrongs, M_tells, M_bytes, M_lastCounts, M_word, M_values, M_system, M_solved, M_wrong, M_rights)
def f_Mo_take_329  (x2 : Int32) (x6 : Int32) (t1 : Int32) (t2 : Int32) (M_blocks : Int32) (M_lastMaster : Int32) (M_marks : Nat → Int32) (M_wrongs : Nat → Int32) (M_tells : Nat → Int32) (M_bytes : Nat → Int32) (M_lastCounts : Nat → Int32) (M_word : Nat → Int32) (M_values : Nat → Int32) (M_system : Nat → Int32) (M_solved : Nat → Int32) (M_wrong : Nat → Int32) (M_rights : Nat → Int32) : Option (Int32 × Int32 × (Nat → Int32) × (Nat → Int32) × (Nat → Int32) × (Nat → Int32) × (Nat → Int32) × (Nat → Int32) × (Nat → Int32) × (Nat → Int32) × (Nat → Int32) × (Nat → Int32) × (Nat → Int32)) :=
  wrI M_tells 96 t1 t2 fun g2 =>
  if x6 = 0 then
    f_Mo_take_340 M_blocks M_lastMaster M_marks M_wrongs g2 M_bytes M_lastCounts M_word M_values M_system M_solved M_wrong M_rights
  else
  bd (f_Mo_gaps M_blocks M_lastMaster M_bytes g2 M_lastCounts x2) fun u6 =>
  nm u6.1 fun v3 =>
  nm u6.2.1 fun g4 =>
  nm u6.2.2 fun g5 =>
  f_Mo_take_340 M_blocks v3 M_marks M_wrongs g4 M_bytes g5 M_word M_values M_system M_solved M_wrong M_rights
def f_Mo_take_275  (x2 : Int32) (x3 : Int32) (x4 : Int32) (t0 : Int32) (M_blocks : Int32) (M_lastMaster : Int32) (M_marks : Nat → Int32) (M_wrongs : Nat → Int32) (M_tells : Nat → Int32) (M_bytes : Nat → Int32) (M_lastCounts : Nat → Int32) (M_word : Nat → Int32) (M_values : Nat → Int32) (M_system : Nat → Int32) (M_solved : Nat → Int32) (M_wrong : Nat → Int32) (M_rights : Nat → Int32) : Option (Int32 × Int32 × (Nat → Int32) × (Nat → Int32) × (Nat → Int32) × (Nat → Int32) × (Nat → Int32) × (Nat → Int32) × (Nat → Int32) × (Nat → Int32) × (Nat → Int32) × (Nat → Int32) × (Nat → Int32)) :=
  wrI M_tells 96 ((6 : Int32) * M_blocks) x3 fun g7 =>
  wrI g7 96 (((6 : Int32) * M_blocks) + (1 : Int32)) x4 fun g8 =>
  if t0 = 0 then
    f_Mo_take_329 x2 t0 (((6 : Int32) * M_blocks) + (2 : Int32)) (0 : Int32) M_blocks M_lastMaster M_marks M_wrongs g8 M_bytes M_lastCounts M_word M_values M_system M_solved M_wrong M_rights
  else
  f_Mo_take_329 x2 t0 (((6 : Int32) * M_blocks) + (2 : Int32)) (1 : Int32) M_blocks M_lastMaster M_marks M_wrongs g8 M_bytes M_lastCounts M_word M_values M_system M_solved M_wrong M_rights
def f_Mo_take_274  (x2 : Int32) (x3 : Int32) (x4 : Int32) (M_blocks : Int32) (M_lastMaster : Int32) (M_marks : Nat → Int32) (M_wrongs : Nat → Int32) (M_tells : Nat → Int32) (M_bytes : Nat → Int32) (M_lastCounts : Nat → Int32) (M_word : Nat → Int32) (M_values : Nat → Int32) (M_system : Nat → Int32) (M_solved : Nat → Int32) (M_wrong : Nat → Int32) (M_rights : Nat → Int32) : Option (Int32 × Int32 × (Nat → Int32) × (Nat → Int32) × (Nat → Int32) × (Nat → Int32) × (Nat → Int32) × (Nat → Int32) × (Nat → Int32) × (Nat → Int32) × (Nat → Int32) × (Nat → Int32) × (Nat → Int32)) :=
  f_Mo_take_275 x2 x3 x4 (0 : Int32) M_blocks M_lastMaster M_marks M_wrongs M_tells M_bytes M_lastCounts M_word M_values M_system M_solved M_wrong M_rights
def f_Mo_take_230 (M_depth : Int32) (M_fill : Int32) (M_half : Int32) (x2 : Int32) (x3 : Int32) (x4 : Int32) (x5 : Int32) (M_blocks : Int32) (M_lastMaster : Int32) (M_marks : Nat → Int32) (M_wrongs : Nat → Int32) (M_tells : Nat → Int32) (M_bytes : Nat → Int32) (M_lastCounts : Nat → Int32) (M_word : Nat → Int32) (M_values : Nat → Int32) (M_system : Nat → Int32) (M_solved : Nat → Int32) (M_wrong : Nat → Int32) (M_rights : Nat → Int32) : Option (Int32 × Int32 × (Nat → Int32) × (Nat → Int32) × (Nat → Int32) × (Nat → Int32) × (Nat → Int32) × (Nat → Int32) × (Nat → Int32) × (Nat → Int32) × (Nat → Int32) × (Nat → Int32) × (Nat → Int32)) :=
  if x3 = 0 then
    bd (f_Mo_frameSize M_depth M_fill M_half) fun u10 =>
    nm u10 fun r9 =>
    rdI M_bytes 4000 ((x2 + r9) - (2 : Int32)) fun v11 =>
    bd (f_Mo_frameSize M_depth M_fill M_half) fun u13 =>
    nm u13 fun r12 =>
    rdI M_bytes 4000 ((x2 + r12) - (1 : Int32)) fun v14 =>
    if x5 = (((256 : Int32) * v11) + v14) then
      f_Mo_take_275 x2 x3 x4 (1 : Int32) M_blocks M_lastMaster M_marks M_wrongs M_tells M_bytes M_lastCounts M_word M_values M_system M_solved M_wrong M_rights
    else
    f_Mo_take_274 x2 x3 x4 M_blocks M_lastMaster M_marks M_wrongs M_tells M_bytes M_lastCounts M_word M_values M_system M_solved M_wrong M_rights
  else
  f_Mo_take_274 x2 x3 x4 M_blocks M_lastMaster M_marks M_wrongs M_tells M_bytes M_lastCounts M_word M_values M_system M_solved M_wrong M_rights
def f_Mo_take_197_b (M_depth : Int32) (M_fill : Int32) (M_half : Int32) (kh197 : Int32 → Int32 → Int32 → Int32 → Int32 → Int32 → Int32 → (Nat → Int32) → (Nat → Int32) → (Nat → Int32) → (Nat → Int32) → (Nat → Int32) → (Nat → Int32) → (Nat → Int32) → (Nat → Int32) → (Nat → Int32) → (Nat → Int32) → (Nat → Int32) → Option (Int32 × Int32 × (Nat → Int32) × (Nat → Int32) × (Nat → Int32) × (Nat → Int32) × (Nat → Int32) × (Nat → Int32) × (Nat → Int32) × (Nat → Int32) × (Nat → Int32) × (Nat → Int32) × (Nat → Int32))) (x2 : Int32) (x3 : Int32) (x4 : Int32) (x5 : Int32) (x6 : Int32) (M_blocks : Int32) (M_lastMaster : Int32) (M_marks : Nat → Int32) (M_wrongs : Nat → Int32) (M_tells : Nat → Int32) (M_bytes : Nat → Int32) (M_lastCounts : Nat → Int32) (M_word : Nat → Int32) (M_values : Nat → Int32) (M_system : Nat → Int32) (M_solved : Nat → Int32) (M_wrong : Nat → Int32) (M_rights : Nat → Int32) : Option (Int32 × Int32 × (Nat → Int32) × (Nat → Int32) × (Nat → Int32) × (Nat → Int32) × (Nat → Int32) × (Nat → Int32) × (Nat → Int32) × (Nat → Int32) × (Nat → Int32) × (Nat → Int32) × (Nat → Int32)) :=
  bd (f_Mo_frameSize M_depth M_fill M_half) fun u16 =>
  nm u16 fun r15 =>
  if (r15 - (2 : Int32)) ≤ x6 then
    f_Mo_take_230 M_depth M_fill M_half x2 x3 x4 x5 M_blocks M_lastMaster M_marks M_wrongs M_tells M_bytes M_lastCounts M_word M_values M_system M_solved M_wrong M_rights
  else
  rdI M_bytes 4000 (x2 + x6) fun v17 =>
  bd (f_Mo_checkOn x5 v17) fun u19 =>
  nm u19 fun r18 =>
  nm (x6 + (1 : Int32)) fun v20 =>
  kh197 x2 x3 x4 r18 v20 M_blocks M_lastMaster M_marks M_wrongs M_tells M_bytes M_lastCounts M_word M_values M_system M_solved M_wrong M_rights
def f_Mo_take_197 (M_depth : Int32) (M_fill : Int32) (M_half : Int32) : Nat → Int32 → Int32 → Int32 → Int32 → Int32 → Int32 → Int32 → (Nat → Int32) → (Nat → Int32) → (Nat → Int32) → (Nat → Int32) → (Nat → Int32) → (Nat → Int32) → (Nat → Int32) → (Nat → Int32) → (Nat → Int32) → (Nat → Int32) → (Nat → Int32) → Option (Int32 × Int32 × (Nat → Int32) × (Nat → Int32) × (Nat → Int32) × (Nat → Int32) × (Nat → Int32) × (Nat → Int32) × (Nat → Int32) × (Nat → Int32) × (Nat → Int32) × (Nat → Int32) × (Nat → Int32))
  | 0 => fun _ _ _ _ _ _ _ _ _ _ _ _ _ _ _ _ _ _ => none
  | n + 1 => fun x2 x3 x4 x5 x6 M_blocks M_lastMaster M_marks M_wrongs M_tells M_bytes M_lastCounts M_word M_values M_system M_solved M_wrong M_rights => f_Mo_take_197_b M_depth M_fill M_half (f_Mo_take_197 M_depth M_fill M_half n) x2 x3 x4 x5 x6 M_blocks M_lastMaster M_marks M_wrongs M_tells M_bytes M_lastCounts M_word M_values M_system M_solved M_wrong M_rights
def f_Mo_take_190 (M_depth : Int32) (M_fill : Int32) (M_half : Int32) (x2 : Int32) (x3 : Int32) (x4 : Int32) (M_blocks : Int32) (M_lastMaster : Int32) (M_marks : Nat → Int32) (M_wrongs : Nat → Int32) (M_tells : Nat → Int32) (M_bytes : Nat → Int32) (M_lastCounts : Nat → Int32) (M_word : Nat → Int32) (M_values : Nat → Int32) (M_system : Nat → Int32) (M_solved : Nat → Int32) (M_wrong : Nat → Int32) (M_rights : Nat → Int32) : Option (Int32 × Int32 × (Nat → Int32) × (Nat → Int32) × (Nat → Int32) × (Nat → Int32) × (Nat → Int32) × (Nat → Int32) × (Nat → Int32) × (Nat → Int32) × (Nat → Int32) × (Nat → Int32) × (Nat → Int32)) :=
  f_Mo_take_197 M_depth M_fill M_half 10000 x2 x3 x4 (65535 : Int32) (0 : Int32) M_blocks M_lastMaster M_marks M_wrongs M_tells M_bytes M_lastCounts M_word M_values M_system M_solved M_wrong M_rights
def f_Mo_take_181 (kh120 : Int32 → Int32 → Int32 → Int32 → Int32 → Int32 → (Nat → Int32) → (Nat → Int32) → (Nat → Int32) → (Nat → Int32) → (Nat → Int32) → (Nat → Int32) → (Nat → Int32) → (Nat → Int32) → (Nat → Int32) → (Nat → Int32) → (Nat → Int32) → Option (Int32 × Int32 × (Nat → Int32) × (Nat → Int32) × (Nat → Int32) × (Nat → Int32) × (Nat → Int32) × (Nat → Int32) × (Nat → Int32) × (Nat → Int32) × (Nat → Int32) × (Nat → Int32) × (Nat → Int32))) (x2 : Int32) (x3 : Int32) (x5 : Int32) (t0 : Int32) (t1 : Int32) (M_blocks : Int32) (M_lastMaster : Int32) (M_marks : Nat → Int32) (M_wrongs : Nat → Int32) (M_tells : Nat → Int32) (M_bytes : Nat → Int32) (M_lastCounts : Nat → Int32) (M_word : Nat → Int32) (M_values : Nat → Int32) (M_system : Nat → Int32) (M_solved : Nat → Int32) (M_wrong : Nat → Int32) (M_rights : Nat → Int32) : Option (Int32 × Int32 × (Nat → Int32) × (Nat → Int32) × (Nat → Int32) × (Nat → Int32) × (Nat → Int32) × (Nat → Int32) × (Nat → Int32) × (Nat → Int32) × (Nat → Int32) × (Nat → Int32) × (Nat → Int32)) :=
  nm (t0 + t1) fun v21 =>
  nm (x5 + (1 : Int32)) fun v22 =>
  kh120 x2 x3 v21 v22 M_blocks M_lastMaster M_marks M_wrongs M_tells M_bytes M_lastCounts M_word M_values M_system M_solved M_wrong M_rights
def f_Mo_take_166 (kh120 : Int32 → Int32 → Int32 → Int32 → Int32 → Int32 → (Nat → Int32) → (Nat → Int32) → (Nat → Int32) → (Nat → Int32) → (Nat → Int32) → (Nat → Int32) → (Nat → Int32) → (Nat → Int32) → (Nat → Int32) → (Nat → Int32) → (Nat → Int32) → Option (Int32 × Int32 × (Nat → Int32) × (Nat → Int32) × (Nat → Int32) × (Nat → Int32) × (Nat → Int32) × (Nat → Int32) × (Nat → Int32) × (Nat → Int32) × (Nat → Int32) × (Nat → Int32) × (Nat → Int32))) (x2 : Int32) (x4 : Int32) (x5 : Int32) (x6 : Int32) (t0 : Int32) (t1 : Int32) (M_blocks : Int32) (M_lastMaster : Int32) (M_marks : Nat → Int32) (M_wrongs : Nat → Int32) (M_tells : Nat → Int32) (M_bytes : Nat → Int32) (M_lastCounts : Nat → Int32) (M_word : Nat → Int32) (M_values : Nat → Int32) (M_system : Nat → Int32) (M_solved : Nat → Int32) (M_wrong : Nat → Int32) (M_rights : Nat → Int32) : Option (Int32 × Int32 × (Nat → Int32) × (Nat → Int32) × (Nat → Int32) × (Nat → Int32) × (Nat → Int32) × (Nat → Int32) × (Nat → Int32) × (Nat → Int32) × (Nat → Int32) × (Nat → Int32) × (Nat → Int32)) :=
  nm (t0 + t1) fun v23 =>
  if 0 ≤ x6 then
    f_Mo_take_181 kh120 x2 v23 x5 x4 x6 M_blocks M_lastMaster M_marks M_wrongs M_tells M_bytes M_lastCounts M_word M_values M_system M_solved M_wrong M_rights
  else
  f_Mo_take_181 kh120 x2 v23 x5 x4 (0 : Int32) M_blocks M_lastMaster M_marks M_wrongs M_tells M_bytes M_lastCounts M_word M_values M_system M_solved M_wrong M_rights
def f_Mo_take_120_b (M_depth : Int32) (M_fill : Int32) (M_half : Int32) (M_elements : Nat → Int32) (M_powers : Nat → Int32) (M_logarithms : Nat → Int32) (M_forms : Nat → Int32) (kh120 : Int32 → Int32 → Int32 → Int32 → Int32 → Int32 → (Nat → Int32) → (Nat → Int32) → (Nat → Int32) → (Nat → Int32) → (Nat → Int32) → (Nat → Int32) → (Nat → Int32) → (Nat → Int32) → (Nat → Int32) → (Nat → Int32) → (Nat → Int32) → Option (Int32 × Int32 × (Nat → Int32) × (Nat → Int32) × (Nat → Int32) × (Nat → Int32) × (Nat → Int32) × (Nat → Int32) × (Nat → Int32) × (Nat → Int32) × (Nat → Int32) × (Nat → Int32) × (Nat → Int32))) (x2 : Int32) (x3 : Int32) (x4 : Int32) (x5 : Int32) (M_blocks : Int32) (M_lastMaster : Int32) (M_marks : Nat → Int32) (M_wrongs : Nat → Int32) (M_tells : Nat → Int32) (M_bytes : Nat → Int32) (M_lastCounts : Nat → Int32) (M_word : Nat → Int32) (M_values : Nat → Int32) (M_system : Nat → Int32) (M_solved : Nat → Int32) (M_wrong : Nat → Int32) (M_rights : Nat → Int32) : Option (Int32 × Int32 × (Nat → Int32) × (Nat → Int32) × (Nat → Int32) × (Nat → Int32) × (Nat → Int32) × (Nat → Int32) × (Nat → Int32) × (Nat → Int32) × (Nat → Int32) × (Nat → Int32) × (Nat → Int32)) :=
  if M_depth ≤ x5 then
    f_Mo_take_190 M_depth M_fill M_half x2 x3 x4 M_blocks M_lastMaster M_marks M_wrongs M_tells M_bytes M_lastCounts M_word M_values M_system M_solved M_wrong M_rights
  else
  bd (f_Mo_mend M_depth M_fill M_half M_bytes M_elements M_word M_powers M_values M_logarithms M_forms M_system M_solved M_wrong x2 x5) fun u31 =>
  nm u31.1 fun r24 =>
  nm u31.2.1 fun g25 =>
  nm u31.2.2.1 fun g26 =>
  nm u31.2.2.2.1 fun g27 =>
  nm u31.2.2.2.2.1 fun g28 =>
  nm u31.2.2.2.2.2.1 fun g29 =>
  nm u31.2.2.2.2.2.2 fun g30 =>
  wrI M_rights 128 (((8 : Int32) * M_blocks) + x5) r24 fun g32 =>
  if 0 ≤ r24 then
    f_Mo_take_166 kh120 x2 x4 x5 r24 x3 (0 : Int32) M_blocks M_lastMaster M_marks M_wrongs M_tells g25 M_lastCounts g26 g27 g28 g29 g30 g32
  else
  f_Mo_take_166 kh120 x2 x4 x5 r24 x3 (1 : Int32) M_blocks M_lastMaster M_marks M_wrongs M_tells g25 M_lastCounts g26 g27 g28 g29 g30 g32
def f_Mo_take_120 (M_depth : Int32) (M_fill : Int32) (M_half : Int32) (M_elements : Nat → Int32) (M_powers : Nat → Int32) (M_logarithms : Nat → Int32) (M_forms : Nat → Int32) : Nat → Int32 → Int32 → Int32 → Int32 → Int32 → Int32 → (Nat → Int32) → (Nat → Int32) → (Nat → Int32) → (Nat → Int32) → (Nat → Int32) → (Nat → Int32) → (Nat → Int32) → (Nat → Int32) → (Nat → Int32) → (Nat → Int32) → (Nat → Int32) → Option (Int32 × Int32 × (Nat → Int32) × (Nat → Int32) × (Nat → Int32) × (Nat → Int32) × (Nat → Int32) × (Nat → Int32) × (Nat → Int32) × (Nat → Int32) × (Nat → Int32) × (Nat → Int32) × (Nat → Int32))
  | 0 => fun _ _ _ _ _ _ _ _ _ _ _ _ _ _ _ _ _ => none
  | n + 1 => fun x2 x3 x4 x5 M_blocks M_lastMaster M_marks M_wrongs M_tells M_bytes M_lastCounts M_word M_values M_system M_solved M_wrong M_rights => f_Mo_take_120_b M_depth M_fill M_half M_elements M_powers M_logarithms M_forms (f_Mo_take_120 M_depth M_fill M_half M_elements M_powers M_logarithms M_forms n) x2 x3 x4 x5 M_blocks M_lastMaster M_marks M_wrongs M_tells M_bytes M_lastCounts M_word M_values M_system M_solved M_wrong M_rights
def f_Mo_take_112 (M_depth : Int32) (M_fill : Int32) (M_half : Int32) (M_elements : Nat → Int32) (M_powers : Nat → Int32) (M_logarithms : Nat → Int32) (M_forms : Nat → Int32) (x2 : Int32) (M_blocks : Int32) (M_lastMaster : Int32) (M_marks : Nat → Int32) (M_wrongs : Nat → Int32) (M_tells : Nat → Int32) (M_bytes : Nat → Int32) (M_lastCounts : Nat → Int32) (M_word : Nat → Int32) (M_values : Nat → Int32) (M_system : Nat → Int32) (M_solved : Nat → Int32) (M_wrong : Nat → Int32) (M_rights : Nat → Int32) : Option (Int32 × Int32 × (Nat → Int32) × (Nat → Int32) × (Nat → Int32) × (Nat → Int32) × (Nat → Int32) × (Nat → Int32) × (Nat → Int32) × (Nat → Int32) × (Nat → Int32) × (Nat → Int32) × (Nat → Int32)) :=
  f_Mo_take_120 M_depth M_fill M_half M_elements M_powers M_logarithms M_forms 10000 x2 (0 : Int32) (0 : Int32) (0 : Int32) M_blocks M_lastMaster M_marks M_wrongs M_tells M_bytes M_lastCounts M_word M_values M_system M_solved M_wrong M_rights
def f_Mo_take_89 (M_mixer : Nat → Int32) (kh38 : Int32 → Int32 → Int32 → Int32 → Int32 → (Nat → Int32) → (Nat → Int32) → (Nat → Int32) → (Nat → Int32) → (Nat → Int32) → (Nat → Int32) → (Nat → Int32) → (Nat → Int32) → (Nat → Int32) → (Nat → Int32) → (Nat → Int32) → Option (Int32 × Int32 × (Nat → Int32) × (Nat → Int32) × (Nat → Int32) × (Nat → Int32) × (Nat → Int32) × (Nat → Int32) × (Nat → Int32) × (Nat → Int32) × (Nat → Int32) × (Nat → Int32) × (Nat → Int32))) (x1 : Int32) (x2 : Int32) (x3 : Int32) (x4 : Int32) (M_blocks : Int32) (M_lastMaster : Int32) (M_marks : Nat → Int32) (M_wrongs : Nat → Int32) (M_tells : Nat → Int32) (M_bytes : Nat → Int32) (M_lastCounts : Nat → Int32) (M_word : Nat → Int32) (M_values : Nat → Int32) (M_system : Nat → Int32) (M_solved : Nat → Int32) (M_wrong : Nat → Int32) (M_rights : Nat → Int32) : Option (Int32 × Int32 × (Nat → Int32) × (Nat → Int32) × (Nat → Int32) × (Nat → Int32) × (Nat → Int32) × (Nat → Int32) × (Nat → Int32) × (Nat → Int32) × (Nat → Int32) × (Nat → Int32) × (Nat → Int32)) :=
  rdI M_mixer 250 x3 fun v33 =>
  wrI M_bytes 4000 (x2 + x3) (x4 ^^^ v33) fun g34 =>
  nm (x3 + (1 : Int32)) fun v35 =>
  kh38 x1 x2 v35 M_blocks M_lastMaster M_marks M_wrongs M_tells g34 M_lastCounts M_word M_values M_system M_solved M_wrong M_rights
def f_Mo_take_52_b (M_row : Nat → Int32) (M_mixer : Nat → Int32) (kh38 : Int32 → Int32 → Int32 → Int32 → Int32 → (Nat → Int32) → (Nat → Int32) → (Nat → Int32) → (Nat → Int32) → (Nat → Int32) → (Nat → Int32) → (Nat → Int32) → (Nat → Int32) → (Nat → Int32) → (Nat → Int32) → (Nat → Int32) → Option (Int32 × Int32 × (Nat → Int32) × (Nat → Int32) × (Nat → Int32) × (Nat → Int32) × (Nat → Int32) × (Nat → Int32) × (Nat → Int32) × (Nat → Int32) × (Nat → Int32) × (Nat → Int32) × (Nat → Int32))) (kh52 : Int32 → Int32 → Int32 → Int32 → Int32 → Int32 → Int32 → (Nat → Int32) → (Nat → Int32) → (Nat → Int32) → (Nat → Int32) → (Nat → Int32) → (Nat → Int32) → (Nat → Int32) → (Nat → Int32) → (Nat → Int32) → (Nat → Int32) → (Nat → Int32) → Option (Int32 × Int32 × (Nat → Int32) × (Nat → Int32) × (Nat → Int32) × (Nat → Int32) × (Nat → Int32) × (Nat → Int32) × (Nat → Int32) × (Nat → Int32) × (Nat → Int32) × (Nat → Int32) × (Nat → Int32))) (x1 : Int32) (x2 : Int32) (x3 : Int32) (x4 : Int32) (x5 : Int32) (M_blocks : Int32) (M_lastMaster : Int32) (M_marks : Nat → Int32) (M_wrongs : Nat → Int32) (M_tells : Nat → Int32) (M_bytes : Nat → Int32) (M_lastCounts : Nat → Int32) (M_word : Nat → Int32) (M_values : Nat → Int32) (M_system : Nat → Int32) (M_solved : Nat → Int32) (M_wrong : Nat → Int32) (M_rights : Nat → Int32) : Option (Int32 × Int32 × (Nat → Int32) × (Nat → Int32) × (Nat → Int32) × (Nat → Int32) × (Nat → Int32) × (Nat → Int32) × (Nat → Int32) × (Nat → Int32) × (Nat → Int32) × (Nat → Int32) × (Nat → Int32)) :=
  if (8 : Int32) ≤ x5 then
    f_Mo_take_89 M_mixer kh38 x1 x2 x3 x4 M_blocks M_lastMaster M_marks M_wrongs M_tells M_bytes M_lastCounts M_word M_values M_system M_solved M_wrong M_rights
  else
  rdI M_row 3600 (((x1 + (32 : Int32)) + ((8 : Int32) * x3)) + x5) fun v36 =>
  nm (((2 : Int32) * x4) + v36) fun v37 =>
  nm (x5 + (1 : Int32)) fun v38 =>
  kh52 x1 x2 x3 v37 v38 M_blocks M_lastMaster M_marks M_wrongs M_tells M_bytes M_lastCounts M_word M_values M_system M_solved M_wrong M_rights
def f_Mo_take_52 (M_row : Nat → Int32) (M_mixer : Nat → Int32) (kh38 : Int32 → Int32 → Int32 → Int32 → Int32 → (Nat → Int32) → (Nat → Int32) → (Nat → Int32) → (Nat → Int32) → (Nat → Int32) → (Nat → Int32) → (Nat → Int32) → (Nat → Int32) → (Nat → Int32) → (Nat → Int32) → (Nat → Int32) → Option (Int32 × Int32 × (Nat → Int32) × (Nat → Int32) × (Nat → Int32) × (Nat → Int32) × (Nat → Int32) × (Nat → Int32) × (Nat → Int32) × (Nat → Int32) × (Nat → Int32) × (Nat → Int32) × (Nat → Int32))) : Nat → Int32 → Int32 → Int32 → Int32 → Int32 → Int32 → Int32 → (Nat → Int32) → (Nat → Int32) → (Nat → Int32) → (Nat → Int32) → (Nat → Int32) → (Nat → Int32) → (Nat → Int32) → (Nat → Int32) → (Nat → Int32) → (Nat → Int32) → (Nat → Int32) → Option (Int32 × Int32 × (Nat → Int32) × (Nat → Int32) × (Nat → Int32) × (Nat → Int32) × (Nat → Int32) × (Nat → Int32) × (Nat → Int32) × (Nat → Int32) × (Nat → Int32) × (Nat → Int32) × (Nat → Int32))
  | 0 => fun _ _ _ _ _ _ _ _ _ _ _ _ _ _ _ _ _ _ => none
  | n + 1 => fun x1 x2 x3 x4 x5 M_blocks M_lastMaster M_marks M_wrongs M_tells M_bytes M_lastCounts M_word M_values M_system M_solved M_wrong M_rights => f_Mo_take_52_b M_row M_mixer kh38 (f_Mo_take_52 M_row M_mixer kh38 n) x1 x2 x3 x4 x5 M_blocks M_lastMaster M_marks M_wrongs M_tells M_bytes M_lastCounts M_word M_values M_system M_solved M_wrong M_rights
def f_Mo_take_38_b (M_depth : Int32) (M_fill : Int32) (M_half : Int32) (M_row : Nat → Int32) (M_elements : Nat → Int32) (M_powers : Nat → Int32) (M_logarithms : Nat → Int32) (M_forms : Nat → Int32) (M_mixer : Nat → Int32) (kh38 : Int32 → Int32 → Int32 → Int32 → Int32 → (Nat → Int32) → (Nat → Int32) → (Nat → Int32) → (Nat → Int32) → (Nat → Int32) → (Nat → Int32) → (Nat → Int32) → (Nat → Int32) → (Nat → Int32) → (Nat → Int32) → (Nat → Int32) → Option (Int32 × Int32 × (Nat → Int32) × (Nat → Int32) × (Nat → Int32) × (Nat → Int32) × (Nat → Int32) × (Nat → Int32) × (Nat → Int32) × (Nat → Int32) × (Nat → Int32) × (Nat → Int32) × (Nat → Int32))) (x1 : Int32) (x2 : Int32) (x3 : Int32) (M_blocks : Int32) (M_lastMaster : Int32) (M_marks : Nat → Int32) (M_wrongs : Nat → Int32) (M_tells : Nat → Int32) (M_bytes : Nat → Int32) (M_lastCounts : Nat → Int32) (M_word : Nat → Int32) (M_values : Nat → Int32) (M_system : Nat → Int32) (M_solved : Nat → Int32) (M_wrong : Nat → Int32) (M_rights : Nat → Int32) : Option (Int32 × Int32 × (Nat → Int32) × (Nat → Int32) × (Nat → Int32) × (Nat → Int32) × (Nat → Int32) × (Nat → Int32) × (Nat → Int32) × (Nat → Int32) × (Nat → Int32) × (Nat → Int32) × (Nat → Int32)) :=
  bd (f_Mo_blockSize M_depth M_fill) fun u40 =>
  nm u40 fun r39 =>
  if r39 ≤ x3 then
    f_Mo_take_112 M_depth M_fill M_half M_elements M_powers M_logarithms M_forms x2 M_blocks M_lastMaster M_marks M_wrongs M_tells M_bytes M_lastCounts M_word M_values M_system M_solved M_wrong M_rights
  else
  f_Mo_take_52 M_row M_mixer kh38 10000 x1 x2 x3 (0 : Int32) (0 : Int32) M_blocks M_lastMaster M_marks M_wrongs M_tells M_bytes M_lastCounts M_word M_values M_system M_solved M_wrong M_rights
def f_Mo_take_38 (M_depth : Int32) (M_fill : Int32) (M_half : Int32) (M_row : Nat → Int32) (M_elements : Nat → Int32) (M_powers : Nat → Int32) (M_logarithms : Nat → Int32) (M_forms : Nat → Int32) (M_mixer : Nat → Int32) : Nat → Int32 → Int32 → Int32 → Int32 → Int32 → (Nat → Int32) → (Nat → Int32) → (Nat → Int32) → (Nat → Int32) → (Nat → Int32) → (Nat → Int32) → (Nat → Int32) → (Nat → Int32) → (Nat → Int32) → (Nat → Int32) → (Nat → Int32) → Option (Int32 × Int32 × (Nat → Int32) × (Nat → Int32) × (Nat → Int32) × (Nat → Int32) × (Nat → Int32) × (Nat → Int32) × (Nat → Int32) × (Nat → Int32) × (Nat → Int32) × (Nat → Int32) × (Nat → Int32))
  | 0 => fun _ _ _ _ _ _ _ _ _ _ _ _ _ _ _ _ => none
  | n + 1 => fun x1 x2 x3 M_blocks M_lastMaster M_marks M_wrongs M_tells M_bytes M_lastCounts M_word M_values M_system M_solved M_wrong M_rights => f_Mo_take_38_b M_depth M_fill M_half M_row M_elements M_powers M_logarithms M_forms M_mixer (f_Mo_take_38 M_depth M_fill M_half M_row M_elements M_powers M_logarithms M_forms M_mixer n) x1 x2 x3 M_blocks M_lastMaster M_marks M_wrongs M_tells M_bytes M_lastCounts M_word M_values M_system M_solved M_wrong M_rights
def f_Mo_take (M_depth : Int32) (M_fill : Int32) (M_half : Int32) (M_blocks : Int32) (M_lastMaster : Int32) (M_marks : Nat → Int32) (M_row : Nat → Int32) (M_wrongs : Nat → Int32) (M_tells : Nat → Int32) (M_bytes : Nat → Int32) (M_lastCounts : Nat → Int32) (M_elements : Nat → Int32) (M_word : Nat → Int32) (M_powers : Nat → Int32) (M_values : Nat → Int32) (M_logarithms : Nat → Int32) (M_forms : Nat → Int32) (M_system : Nat → Int32) (M_solved : Nat → Int32) (M_wrong : Nat → Int32) (M_rights : Nat → Int32) (M_mixer : Nat → Int32) (x1 : Int32) : Option (Int32 × Int32 × (Nat → Int32) × (Nat → Int32) × (Nat → Int32) × (Nat → Int32) × (Nat → Int32) × (Nat → Int32) × (Nat → Int32) × (Nat → Int32) × (Nat → Int32) × (Nat → Int32) × (Nat → Int32)) :=
  nm ((250 : Int32) * M_blocks) fun v41 =>
  wrI M_marks 16 M_blocks (x1 + (32 : Int32)) fun g42 =>
  bd (f_Mo_markWrong M_row x1) fun u44 =>
  nm u44 fun r43 =>
  wrI M_wrongs 16 M_blocks r43 fun g45 =>
  f_Mo_take_38 M_depth M_fill M_half M_row M_elements M_powers M_logarithms M_forms M_mixer 10000 x1 v41 (0 : Int32) M_blocks M_lastMaster g42 g45 M_tells M_bytes M_lastCounts M_word M_values M_system M_solved M_wrong M_rights
set_option maxHeartbeats 4000000 in
set_option maxRecDepth 100000 in
theorem c_Mo_take (l : Launch) (D : va_G) (cI cJ : ClassId) (tt : Nat → Nat) (qM qM_marks qM_row qM_wrongs qM_tells qM_bytes qM_lastCounts qM_elements qM_word qM_powers qM_values qM_logarithms qM_forms qM_system qM_solved qM_wrong qM_rights qM_mixer : Nat) (M_thrown M_pattern M_craft M_begins M_firsts M_seconds M_data M_waiting M_master M_counts M_line M_length M_sent M_state M_places M_least M_rowSize M_differ : Value) (sz : Nat) (M_depth : Int32) (M_fill : Int32) (M_half : Int32) (M_blocks : Int32) (M_lastMaster : Int32) (M_marks : Nat → Int32) (M_row : Nat → Int32) (M_wrongs : Nat → Int32) (M_tells : Nat → Int32) (M_bytes : Nat → Int32) (M_lastCounts : Nat → Int32) (M_elements : Nat → Int32) (M_word : Nat → Int32) (M_powers : Nat → Int32) (M_values : Nat → Int32) (M_logarithms : Nat → Int32) (M_forms : Nat → Int32) (M_system : Nat → Int32) (M_solved : Nat → Int32) (M_wrong : Nat → Int32) (M_rights : Nat → Int32) (M_mixer : Nat → Int32) (x1 : Int32) (M_blocks' : Int32) (M_lastMaster' : Int32) (M_marks' : Nat → Int32) (M_wrongs' : Nat → Int32) (M_tells' : Nat → Int32) (M_bytes' : Nat → Int32) (M_lastCounts' : Nat → Int32) (M_word' : Nat → Int32) (M_values' : Nat → Int32) (M_system' : Nat → Int32) (M_solved' : Nat → Int32) (M_wrong' : Nat → Int32) (M_rights' : Nat → Int32) (hm : f_Mo_take M_depth M_fill M_half M_blocks M_lastMaster M_marks M_row M_wrongs M_tells M_bytes M_lastCounts M_elements M_word M_powers M_values M_logarithms M_forms M_system M_solved M_wrong M_rights M_mixer x1 = some (M_blocks', M_lastMaster', M_marks', M_wrongs', M_tells', M_bytes', M_lastCounts', M_word', M_values', M_system', M_solved', M_wrong', M_rights')) : CTv l y_Mo_take b_Mo_take 7 none (RM 4 100) D cI cJ tt [.ref qM, .int x1] (w_Mo_take cI cJ qM qM_marks qM_row qM_wrongs qM_tells qM_bytes qM_lastCounts qM_elements qM_word qM_powers qM_values qM_logarithms qM_forms qM_system qM_solved qM_wrong qM_rights qM_mixer M_thrown M_pattern M_craft M_begins M_firsts M_seconds M_data M_waiting M_master M_counts M_line M_length M_sent M_state M_places M_least M_rowSize M_differ M_depth M_fill M_half M_blocks M_lastMaster M_marks M_row M_wrongs M_tells M_bytes M_lastCounts M_elements M_word M_powers M_values M_logarithms M_forms M_system M_solved M_wrong M_rights M_mixer) (w_Mo_take cI cJ qM qM_marks qM_row qM_wrongs qM_tells qM_bytes qM_lastCounts qM_elements qM_word qM_powers qM_values qM_logarithms qM_forms qM_system qM_solved qM_wrong qM_rights qM_mixer M_thrown M_pattern M_craft M_begins M_firsts M_seconds M_data M_waiting M_master M_counts M_line M_length M_sent M_state M_places M_least M_rowSize M_differ M_depth M_fill M_half M_blocks' M_lastMaster' M_marks' M_row M_wrongs' M_tells' M_bytes' M_lastCounts' M_elements M_word' M_powers M_values' M_logarithms M_forms M_system' M_solved' M_wrong' M_rights' M_mixer) sz := by
  refine Met.ofW (cc := b_Mo_take) (maxL := 7) (ret := none) (by decide) rfl ?_
  intro p e s m args below meth c s₁ B hml hv
  obtain ⟨hargs, hsz, hP, hK, hD0, hE⟩ := hv
  have hx := B.exec
  have hb := B.bytes
  have hr := B.returns
  have hts : ∀ w ∈ TB, w.before args s = true := z_mV s (atoms_spec (ws := WD y_Mo_take b_Mo_take 7 none) B.pre)
  have hown : s.vm.findClass "DeepChannelModel" = some m.cls := findClass_of_methodNamed B.named
  have hlocks := B.notSynchronized
  subst hsz
  have hD := hD0.self (sz := s.heap.size)
  generalize hAe : va_A (w_Mo_take cI cJ qM qM_marks qM_row qM_wrongs qM_tells qM_bytes qM_lastCounts qM_elements qM_word qM_powers qM_values qM_logarithms qM_forms qM_system qM_solved qM_wrong qM_rights qM_mixer M_thrown M_pattern M_craft M_begins M_firsts M_seconds M_data M_waiting M_master M_counts M_line M_length M_sent M_state M_places M_least M_rowSize M_differ M_depth M_fill M_half M_blocks M_lastMaster M_marks M_row M_wrongs M_tells M_bytes M_lastCounts M_elements M_word M_powers M_values M_logarithms M_forms M_system M_solved M_wrong M_rights M_mixer) s.heap.size = A at hD hE ⊢
  have hA : ∀ q : Nat, s.heap.size ≤ q → A q := fun q h => by rw [← hAe]; exact Or.inr h
  have hS : va_S A s.heap s.heap [] := va_S.rf
  refine z_entry (vs := [.ref qM, .int x1]) hargs (Nat.le_of_ble_eq_true rfl) (fun ls hl => ?_)
  have hl : lv_has ls 7 [(0, .ref qM), (1, .int x1)] := hl
  show W p l e (RM 4 100) s m args below meth c s.heap [] 0 0 _ _
  refine z_qi (fun Q0 hQ => ?_)
  have F : CallFix p m c b_Mo_take 7 s args TB "DeepChannelModel" := ⟨hx, hb, hml, hown, hts⟩
  have T340 : ∀ (M_blocks : Int32) (M_lastMaster : Int32) (M_marks : Nat → Int32) (M_wrongs : Nat → Int32) (M_tells : Nat → Int32) (M_bytes : Nat → Int32) (M_lastCounts : Nat → Int32) (M_word : Nat → Int32) (M_values : Nat → Int32) (M_system : Nat → Int32) (M_solved : Nat → Int32) (M_wrong : Nat → Int32) (M_rights : Nat → Int32), f_Mo_take_340 M_blocks M_lastMaster M_marks M_wrongs M_tells M_bytes M_lastCounts M_word M_values M_system M_solved M_wrong M_rights = some (M_blocks', M_lastMaster', M_marks', M_wrongs', M_tells', M_bytes', M_lastCounts', M_word', M_values', M_system', M_solved', M_wrong', M_rights') → ∀ (H : Heap) (locs : List Loc), va_P D classes (w_Mo_take cI cJ qM qM_marks qM_row qM_wrongs qM_tells qM_bytes qM_lastCounts qM_elements qM_word qM_powers qM_values qM_logarithms qM_forms qM_system qM_solved qM_wrong qM_rights qM_mixer M_thrown M_pattern M_craft M_begins M_firsts M_seconds M_data M_waiting M_master M_counts M_line M_length M_sent M_state M_places M_least M_rowSize M_differ M_depth M_fill M_half M_blocks M_lastMaster M_marks M_row M_wrongs M_tells M_bytes M_lastCounts M_elements M_word M_powers M_values M_logarithms M_forms M_system M_solved M_wrong M_rights M_mixer) H → va_D A (w_Mo_take cI cJ qM qM_marks qM_row qM_wrongs qM_tells qM_bytes qM_lastCounts qM_elements qM_word qM_powers qM_values qM_logarithms qM_forms qM_system qM_solved qM_wrong qM_rights qM_mixer M_thrown M_pattern M_craft M_begins M_firsts M_seconds M_data M_waiting M_master M_counts M_line M_length M_sent M_state M_places M_least M_rowSize M_differ M_depth M_fill M_half M_blocks M_lastMaster M_marks M_row M_wrongs M_tells M_bytes M_lastCounts M_elements M_word M_powers M_values M_logarithms M_forms M_system M_solved M_wrong M_rights M_mixer) → va_S A s.heap H locs → ∀ (ls : Array Slot), lv_has ls 7 [(0, .ref qM)] → W p l e (RM 4 100) s m args below meth c H locs 0 0 Q0 (F0 m 340 ls []) := by
    intro M_blocks M_lastMaster M_marks M_wrongs M_tells M_bytes M_lastCounts M_word M_values M_system M_solved M_wrong M_rights hm H locs hP hD hS ls hl
    unfold f_Mo_take_340 at hm
    refine lv_aload_n hx hb d_Mo_take_340 rfl (lv_at hl 0 rfl) ?_
    refine lv_dup hx hb d_Mo_take_341 rfl ?_
    refine va_get (D := D) (ci := 11) (v := .int M_blocks) (C := "DeepChannelModel") (T := fT_Mo) (N := 40) hx hb hts u_Mo hown hK hP 0 rfl rfl 27 (by decide) (hts _ k_913) (fun _ h9 => h9) rfl d_Mo_take_342 ?_
    refine lv_iconst (v := (1 : Int32)) hx hb d_Mo_take_345 (by decide) ?_
    refine lv_iadd hx hb d_Mo_take_346 ?_
    refine z_nmi hm (fun v1 hm => ?_)
    refine va_put (D := D) (ci := 11) (v := .int v1) (ty := .int) (C := "DeepChannelModel") (T := fT_Mo) (N := 40) hx hb hts u_Mo fY_Mo fK_Mo fN_Mo hown hK hP hD hS 0 rfl rfl 27 (by decide) (hts _ k_913) (fun _ h9 => h9) rfl (by decide +kernel) rfl rfl (Nat.le_of_ble_eq_true rfl) d_Mo_take_347 (fun H locs hP hD hS => ?_)
    have hP : va_P D classes (w_Mo_take cI cJ qM qM_marks qM_row qM_wrongs qM_tells qM_bytes qM_lastCounts qM_elements qM_word qM_powers qM_values qM_logarithms qM_forms qM_system qM_solved qM_wrong qM_rights qM_mixer M_thrown M_pattern M_craft M_begins M_firsts M_seconds M_data M_waiting M_master M_counts M_line M_length M_sent M_state M_places M_least M_rowSize M_differ M_depth M_fill M_half v1 M_lastMaster M_marks M_row M_wrongs M_tells M_bytes M_lastCounts M_elements M_word M_powers M_values M_logarithms M_forms M_system M_solved M_wrong M_rights M_mixer) H := hP
    have hD : va_D A (w_Mo_take cI cJ qM qM_marks qM_row qM_wrongs qM_tells qM_bytes qM_lastCounts qM_elements qM_word qM_powers qM_values qM_logarithms qM_forms qM_system qM_solved qM_wrong qM_rights qM_mixer M_thrown M_pattern M_craft M_begins M_firsts M_seconds M_data M_waiting M_master M_counts M_line M_length M_sent M_state M_places M_least M_rowSize M_differ M_depth M_fill M_half v1 M_lastMaster M_marks M_row M_wrongs M_tells M_bytes M_lastCounts M_elements M_word M_powers M_values M_logarithms M_forms M_system M_solved M_wrong M_rights M_mixer) := hD
    cases hm
    exact z_qo hQ (z_vret hr hx hb hlocks hK hP hD hS d_Mo_take_350)
  have T329 : ∀ (x2 : Int32) (x6 : Int32) (t1 : Int32) (t2 : Int32) (M_blocks : Int32) (M_lastMaster : Int32) (M_marks : Nat → Int32) (M_wrongs : Nat → Int32) (M_tells : Nat → Int32) (M_bytes : Nat → Int32) (M_lastCounts : Nat → Int32) (M_word : Nat → Int32) (M_values : Nat → Int32) (M_system : Nat → Int32) (M_solved : Nat → Int32) (M_wrong : Nat → Int32) (M_rights : Nat → Int32), f_Mo_take_329 x2 x6 t1 t2 M_blocks M_lastMaster M_marks M_wrongs M_tells M_bytes M_lastCounts M_word M_values M_system M_solved M_wrong M_rights = some (M_blocks', M_lastMaster', M_marks', M_wrongs', M_tells', M_bytes', M_lastCounts', M_word', M_values', M_system', M_solved', M_wrong', M_rights') → ∀ (H : Heap) (locs : List Loc), va_P D classes (w_Mo_take cI cJ qM qM_marks qM_row qM_wrongs qM_tells qM_bytes qM_lastCounts qM_elements qM_word qM_powers qM_values qM_logarithms qM_forms qM_system qM_solved qM_wrong qM_rights qM_mixer M_thrown M_pattern M_craft M_begins M_firsts M_seconds M_data M_waiting M_master M_counts M_line M_length M_sent M_state M_places M_least M_rowSize M_differ M_depth M_fill M_half M_blocks M_lastMaster M_marks M_row M_wrongs M_tells M_bytes M_lastCounts M_elements M_word M_powers M_values M_logarithms M_forms M_system M_solved M_wrong M_rights M_mixer) H → va_D A (w_Mo_take cI cJ qM qM_marks qM_row qM_wrongs qM_tells qM_bytes qM_lastCounts qM_elements qM_word qM_powers qM_values qM_logarithms qM_forms qM_system qM_solved qM_wrong qM_rights qM_mixer M_thrown M_pattern M_craft M_begins M_firsts M_seconds M_data M_waiting M_master M_counts M_line M_length M_sent M_state M_places M_least M_rowSize M_differ M_depth M_fill M_half M_blocks M_lastMaster M_marks M_row M_wrongs M_tells M_bytes M_lastCounts M_elements M_word M_powers M_values M_logarithms M_forms M_system M_solved M_wrong M_rights M_mixer) → va_S A s.heap H locs → ∀ (ls : Array Slot), lv_has ls 7 [(0, .ref qM), (2, .int x2), (6, .int x6)] → W p l e (RM 4 100) s m args below meth c H locs 0 0 Q0 (F0 m 329 ls [.int t2, .int t1, .ref qM_tells]) := by
    intro x2 x6 t1 t2 M_blocks M_lastMaster M_marks M_wrongs M_tells M_bytes M_lastCounts M_word M_values M_system M_solved M_wrong M_rights hm H locs hP hD hS ls hl
    unfold f_Mo_take_329 at hm
    refine z_iast hm hx hb hK hP hD hS 4 rfl d_Mo_take_329 (fun g2 hm H locs hP hD hS => ?_)
    have hP : va_P D classes (w_Mo_take cI cJ qM qM_marks qM_row qM_wrongs qM_tells qM_bytes qM_lastCounts qM_elements qM_word qM_powers qM_values qM_logarithms qM_forms qM_system qM_solved qM_wrong qM_rights qM_mixer M_thrown M_pattern M_craft M_begins M_firsts M_seconds M_data M_waiting M_master M_counts M_line M_length M_sent M_state M_places M_least M_rowSize M_differ M_depth M_fill M_half M_blocks M_lastMaster M_marks M_row M_wrongs g2 M_bytes M_lastCounts M_elements M_word M_powers M_values M_logarithms M_forms M_system M_solved M_wrong M_rights M_mixer) H := hP
    have hD : va_D A (w_Mo_take cI cJ qM qM_marks qM_row qM_wrongs qM_tells qM_bytes qM_lastCounts qM_elements qM_word qM_powers qM_values qM_logarithms qM_forms qM_system qM_solved qM_wrong qM_rights qM_mixer M_thrown M_pattern M_craft M_begins M_firsts M_seconds M_data M_waiting M_master M_counts M_line M_length M_sent M_state M_places M_least M_rowSize M_differ M_depth M_fill M_half M_blocks M_lastMaster M_marks M_row M_wrongs g2 M_bytes M_lastCounts M_elements M_word M_powers M_values M_logarithms M_forms M_system M_solved M_wrong M_rights M_mixer) := hD
    refine lv_iload hx hb d_Mo_take_330 (lv_at hl 2 rfl) ?_
    refine z_if hm (lv_if_eq (tgt := 340) hx hb d_Mo_take_332 (by decide)) (fun hm => ?_) (fun hm => ?_)
    · exact T340 M_blocks M_lastMaster M_marks M_wrongs g2 M_bytes M_lastCounts M_word M_values M_system M_solved M_wrong M_rights hm _ _ hP hD hS _ (lv_sub hl [0] rfl)
    · refine lv_aload_n hx hb d_Mo_take_335 rfl (lv_at hl 0 rfl) ?_
      refine lv_iload_n hx hb d_Mo_take_336 rfl (lv_at hl 1 rfl) ?_
      obtain ⟨⟨v3, g4, g5⟩, hu, hm⟩ := bd_el hm
      replace hm := nm_3 hm
      refine z_cVv (wc := w_Mo_gaps cI cJ qM qM_bytes qM_tells qM_lastCounts M_thrown (.int M_depth) (.int M_fill) (.int M_half) M_pattern M_craft M_begins M_firsts M_seconds (.ref qM_powers) (.ref qM_logarithms) (.ref qM_forms) (.ref qM_elements) (.ref qM_mixer) M_data M_waiting M_master M_counts M_line M_length M_sent M_state M_places M_least (.ref qM_row) M_rowSize M_differ (.ref qM_marks) (.ref qM_wrongs) (.ref qM_rights) (.ref qM_word) (.ref qM_values) (.ref qM_system) (.ref qM_solved) (.ref qM_wrong) M_blocks M_lastMaster M_bytes g2 M_lastCounts) (wc' := w_Mo_gaps cI cJ qM qM_bytes qM_tells qM_lastCounts M_thrown (.int M_depth) (.int M_fill) (.int M_half) M_pattern M_craft M_begins M_firsts M_seconds (.ref qM_powers) (.ref qM_logarithms) (.ref qM_forms) (.ref qM_elements) (.ref qM_mixer) M_data M_waiting M_master M_counts M_line M_length M_sent M_state M_places M_least (.ref qM_row) M_rowSize M_differ (.ref qM_marks) (.ref qM_wrongs) (.ref qM_rights) (.ref qM_word) (.ref qM_values) (.ref qM_system) (.ref qM_solved) (.ref qM_wrong) M_blocks v3 M_bytes g4 g5) (wr := [(qM_marks, .inl (cI, 16, .inl M_marks)), (qM_row, .inl (cI, 3600, .inl M_row)), (qM_wrongs, .inl (cI, 16, .inl M_wrongs)), (qM_elements, .inl (cI, 256, .inl M_elements)), (qM_word, .inl (cI, 255, .inl M_word)), (qM_powers, .inl (cI, 255, .inl M_powers)), (qM_values, .inl (cI, 32, .inl M_values)), (qM_logarithms, .inl (cI, 256, .inl M_logarithms)), (qM_forms, .inl (cI, 256, .inl M_forms)), (qM_system, .inl (cI, 1056, .inl M_system)), (qM_solved, .inl (cI, 32, .inl M_solved)), (qM_wrong, .inl (cI, 16, .inl M_wrong)), (qM_rights, .inl (cI, 128, .inl M_rights)), (qM_mixer, .inl (cI, 250, .inl M_mixer))]) (As := [.int x2]) (rest := []) (c_Mo_gaps l D cI cJ tt qM qM_bytes qM_tells qM_lastCounts M_thrown (.int M_depth) (.int M_fill) (.int M_half) M_pattern M_craft M_begins M_firsts M_seconds (.ref qM_powers) (.ref qM_logarithms) (.ref qM_forms) (.ref qM_elements) (.ref qM_mixer) M_data M_waiting M_master M_counts M_line M_length M_sent M_state M_places M_least (.ref qM_row) M_rowSize M_differ (.ref qM_marks) (.ref qM_wrongs) (.ref qM_rights) (.ref qM_word) (.ref qM_values) (.ref qM_system) (.ref qM_solved) (.ref qM_wrong) _ M_blocks M_lastMaster M_bytes g2 M_lastCounts x2 v3 g4 g5 hu) F ok_Mo_gaps rfl k_1163 hK hE hP hD hS hA [0, 5, 4, 6] [1, 2, 3, 7, 8, 9, 10, 11, 12, 13, 14, 15, 16, 17] rfl rfl (by decide) (by decide) (by decide) 0 rfl rfl rfl ⟨rfl, rfl, Nat.le_of_ble_eq_true rfl, Nat.le_of_ble_eq_true rfl⟩ ⟨Nat.zero_le _, Nat.zero_le _⟩ rfl hl.1 rfl (Nat.le_of_ble_eq_true rfl) d_Mo_take_337 (fun H locs hP hD hS => ?_)
      have hP : va_P D classes (w_Mo_take cI cJ qM qM_marks qM_row qM_wrongs qM_tells qM_bytes qM_lastCounts qM_elements qM_word qM_powers qM_values qM_logarithms qM_forms qM_system qM_solved qM_wrong qM_rights qM_mixer M_thrown M_pattern M_craft M_begins M_firsts M_seconds M_data M_waiting M_master M_counts M_line M_length M_sent M_state M_places M_least M_rowSize M_differ M_depth M_fill M_half M_blocks v3 M_marks M_row M_wrongs g4 M_bytes g5 M_elements M_word M_powers M_values M_logarithms M_forms M_system M_solved M_wrong M_rights M_mixer) H := hP.sub [14, 0, 1, 2, 16, 15, 17, 3, 4, 5, 6, 7, 8, 9, 10, 11, 12, 13] rfl
      have hD : va_D A (w_Mo_take cI cJ qM qM_marks qM_row qM_wrongs qM_tells qM_bytes qM_lastCounts qM_elements qM_word qM_powers qM_values qM_logarithms qM_forms qM_system qM_solved qM_wrong qM_rights qM_mixer M_thrown M_pattern M_craft M_begins M_firsts M_seconds M_data M_waiting M_master M_counts M_line M_length M_sent M_state M_places M_least M_rowSize M_differ M_depth M_fill M_half M_blocks v3 M_marks M_row M_wrongs g4 M_bytes g5 M_elements M_word M_powers M_values M_logarithms M_forms M_system M_solved M_wrong M_rights M_mixer) := hD.sub [14, 0, 1, 2, 16, 15, 17, 3, 4, 5, 6, 7, 8, 9, 10, 11, 12, 13] (by decide) rfl
      exact T340 M_blocks v3 M_marks M_wrongs g4 M_bytes g5 M_word M_values M_system M_solved M_wrong M_rights hm _ _ hP hD hS _ (lv_sub hl [0] rfl)
  have T275 : ∀ (x2 : Int32) (x3 : Int32) (x4 : Int32) (t0 : Int32) (M_blocks : Int32) (M_lastMaster : Int32) (M_marks : Nat → Int32) (M_wrongs : Nat → Int32) (M_tells : Nat → Int32) (M_bytes : Nat → Int32) (M_lastCounts : Nat → Int32) (M_word : Nat → Int32) (M_values : Nat → Int32) (M_system : Nat → Int32) (M_solved : Nat → Int32) (M_wrong : Nat → Int32) (M_rights : Nat → Int32), f_Mo_take_275 x2 x3 x4 t0 M_blocks M_lastMaster M_marks M_wrongs M_tells M_bytes M_lastCounts M_word M_values M_system M_solved M_wrong M_rights = some (M_blocks', M_lastMaster', M_marks', M_wrongs', M_tells', M_bytes', M_lastCounts', M_word', M_values', M_system', M_solved', M_wrong', M_rights') → ∀ (H : Heap) (locs : List Loc), va_P D classes (w_Mo_take cI cJ qM qM_marks qM_row qM_wrongs qM_tells qM_bytes qM_lastCounts qM_elements qM_word qM_powers qM_values qM_logarithms qM_forms qM_system qM_solved qM_wrong qM_rights qM_mixer M_thrown M_pattern M_craft M_begins M_firsts M_seconds M_data M_waiting M_master M_counts M_line M_length M_sent M_state M_places M_least M_rowSize M_differ M_depth M_fill M_half M_blocks M_lastMaster M_marks M_row M_wrongs M_tells M_bytes M_lastCounts M_elements M_word M_powers M_values M_logarithms M_forms M_system M_solved M_wrong M_rights M_mixer) H → va_D A (w_Mo_take cI cJ qM qM_marks qM_row qM_wrongs qM_tells qM_bytes qM_lastCounts qM_elements qM_word qM_powers qM_values qM_logarithms qM_forms qM_system qM_solved qM_wrong qM_rights qM_mixer M_thrown M_pattern M_craft M_begins M_firsts M_seconds M_data M_waiting M_master M_counts M_line M_length M_sent M_state M_places M_least M_rowSize M_differ M_depth M_fill M_half M_blocks M_lastMaster M_marks M_row M_wrongs M_tells M_bytes M_lastCounts M_elements M_word M_powers M_values M_logarithms M_forms M_system M_solved M_wrong M_rights M_mixer) → va_S A s.heap H locs → ∀ (ls : Array Slot), lv_has ls 7 [(0, .ref qM), (2, .int x2), (3, .int x3), (4, .int x4)] → W p l e (RM 4 100) s m args below meth c H locs 0 0 Q0 (F0 m 275 ls [.int t0]) := by
    intro x2 x3 x4 t0 M_blocks M_lastMaster M_marks M_wrongs M_tells M_bytes M_lastCounts M_word M_values M_system M_solved M_wrong M_rights hm H locs hP hD hS ls hl
    unfold f_Mo_take_275 at hm
    refine lv_istore (lv' := [(6, .int t0), (0, .ref qM), (2, .int x2), (3, .int x3), (4, .int x4)]) hx hb d_Mo_take_275 hl (by decide) rfl (fun ls hl => ?_)
    refine lv_aload_n hx hb d_Mo_take_277 rfl (lv_at hl 1 rfl) ?_
    refine va_get (D := D) (ci := 11) (v := .ref qM_tells) (C := "DeepChannelModel") (T := fT_Mo) (N := 40) hx hb hts u_Mo hown hK hP 0 rfl rfl 32 (by decide) (hts _ k_918) (fun _ h9 => h9) rfl d_Mo_take_278 ?_
    refine lv_bipush (v := (6 : Int32)) hx hb d_Mo_take_281 (by decide) ?_
    refine lv_aload_n hx hb d_Mo_take_283 rfl (lv_at hl 1 rfl) ?_
    refine va_get (D := D) (ci := 11) (v := .int M_blocks) (C := "DeepChannelModel") (T := fT_Mo) (N := 40) hx hb hts u_Mo hown hK hP 0 rfl rfl 27 (by decide) (hts _ k_913) (fun _ h9 => h9) rfl d_Mo_take_284 ?_
    refine lv_imul hx hb d_Mo_take_287 ?_
    refine lv_iload_n hx hb d_Mo_take_288 rfl (lv_at hl 3 rfl) ?_
    refine z_iast hm hx hb hK hP hD hS 4 rfl d_Mo_take_289 (fun g7 hm H locs hP hD hS => ?_)
    have hP : va_P D classes (w_Mo_take cI cJ qM qM_marks qM_row qM_wrongs qM_tells qM_bytes qM_lastCounts qM_elements qM_word qM_powers qM_values qM_logarithms qM_forms qM_system qM_solved qM_wrong qM_rights qM_mixer M_thrown M_pattern M_craft M_begins M_firsts M_seconds M_data M_waiting M_master M_counts M_line M_length M_sent M_state M_places M_least M_rowSize M_differ M_depth M_fill M_half M_blocks M_lastMaster M_marks M_row M_wrongs g7 M_bytes M_lastCounts M_elements M_word M_powers M_values M_logarithms M_forms M_system M_solved M_wrong M_rights M_mixer) H := hP
    have hD : va_D A (w_Mo_take cI cJ qM qM_marks qM_row qM_wrongs qM_tells qM_bytes qM_lastCounts qM_elements qM_word qM_powers qM_values qM_logarithms qM_forms qM_system qM_solved qM_wrong qM_rights qM_mixer M_thrown M_pattern M_craft M_begins M_firsts M_seconds M_data M_waiting M_master M_counts M_line M_length M_sent M_state M_places M_least M_rowSize M_differ M_depth M_fill M_half M_blocks M_lastMaster M_marks M_row M_wrongs g7 M_bytes M_lastCounts M_elements M_word M_powers M_values M_logarithms M_forms M_system M_solved M_wrong M_rights M_mixer) := hD
    refine lv_aload_n hx hb d_Mo_take_290 rfl (lv_at hl 1 rfl) ?_
    refine va_get (D := D) (ci := 11) (v := .ref qM_tells) (C := "DeepChannelModel") (T := fT_Mo) (N := 40) hx hb hts u_Mo hown hK hP 0 rfl rfl 32 (by decide) (hts _ k_918) (fun _ h9 => h9) rfl d_Mo_take_291 ?_
    refine lv_bipush (v := (6 : Int32)) hx hb d_Mo_take_294 (by decide) ?_
    refine lv_aload_n hx hb d_Mo_take_296 rfl (lv_at hl 1 rfl) ?_
    refine va_get (D := D) (ci := 11) (v := .int M_blocks) (C := "DeepChannelModel") (T := fT_Mo) (N := 40) hx hb hts u_Mo hown hK hP 0 rfl rfl 27 (by decide) (hts _ k_913) (fun _ h9 => h9) rfl d_Mo_take_297 ?_
    refine lv_imul hx hb d_Mo_take_300 ?_
    refine lv_iconst (v := (1 : Int32)) hx hb d_Mo_take_301 (by decide) ?_
    refine lv_iadd hx hb d_Mo_take_302 ?_
    refine lv_iload hx hb d_Mo_take_303 (lv_at hl 4 rfl) ?_
    refine z_iast hm hx hb hK hP hD hS 4 rfl d_Mo_take_305 (fun g8 hm H locs hP hD hS => ?_)
    have hP : va_P D classes (w_Mo_take cI cJ qM qM_marks qM_row qM_wrongs qM_tells qM_bytes qM_lastCounts qM_elements qM_word qM_powers qM_values qM_logarithms qM_forms qM_system qM_solved qM_wrong qM_rights qM_mixer M_thrown M_pattern M_craft M_begins M_firsts M_seconds M_data M_waiting M_master M_counts M_line M_length M_sent M_state M_places M_least M_rowSize M_differ M_depth M_fill M_half M_blocks M_lastMaster M_marks M_row M_wrongs g8 M_bytes M_lastCounts M_elements M_word M_powers M_values M_logarithms M_forms M_system M_solved M_wrong M_rights M_mixer) H := hP
    have hD : va_D A (w_Mo_take cI cJ qM qM_marks qM_row qM_wrongs qM_tells qM_bytes qM_lastCounts qM_elements qM_word qM_powers qM_values qM_logarithms qM_forms qM_system qM_solved qM_wrong qM_rights qM_mixer M_thrown M_pattern M_craft M_begins M_firsts M_seconds M_data M_waiting M_master M_counts M_line M_length M_sent M_state M_places M_least M_rowSize M_differ M_depth M_fill M_half M_blocks M_lastMaster M_marks M_row M_wrongs g8 M_bytes M_lastCounts M_elements M_word M_powers M_values M_logarithms M_forms M_system M_solved M_wrong M_rights M_mixer) := hD
    refine lv_aload_n hx hb d_Mo_take_306 rfl (lv_at hl 1 rfl) ?_
    refine va_get (D := D) (ci := 11) (v := .ref qM_tells) (C := "DeepChannelModel") (T := fT_Mo) (N := 40) hx hb hts u_Mo hown hK hP 0 rfl rfl 32 (by decide) (hts _ k_918) (fun _ h9 => h9) rfl d_Mo_take_307 ?_
    refine lv_bipush (v := (6 : Int32)) hx hb d_Mo_take_310 (by decide) ?_
    refine lv_aload_n hx hb d_Mo_take_312 rfl (lv_at hl 1 rfl) ?_
    refine va_get (D := D) (ci := 11) (v := .int M_blocks) (C := "DeepChannelModel") (T := fT_Mo) (N := 40) hx hb hts u_Mo hown hK hP 0 rfl rfl 27 (by decide) (hts _ k_913) (fun _ h9 => h9) rfl d_Mo_take_313 ?_
    refine lv_imul hx hb d_Mo_take_316 ?_
    refine lv_iconst (v := (2 : Int32)) hx hb d_Mo_take_317 (by decide) ?_
    refine lv_iadd hx hb d_Mo_take_318 ?_
    refine lv_iload hx hb d_Mo_take_319 (lv_at hl 0 rfl) ?_
    refine z_if hm (lv_if_eq (tgt := 328) hx hb d_Mo_take_321 (by decide)) (fun hm => ?_) (fun hm => ?_)
    · refine lv_iconst (v := (0 : Int32)) hx hb d_Mo_take_328 (by decide) ?_
      exact T329 x2 t0 (((6 : Int32) * M_blocks) + (2 : Int32)) (0 : Int32) M_blocks M_lastMaster M_marks M_wrongs g8 M_bytes M_lastCounts M_word M_values M_system M_solved M_wrong M_rights hm _ _ hP hD hS _ (lv_sub hl [1, 2, 0] rfl)
    · refine lv_iconst (v := (1 : Int32)) hx hb d_Mo_take_324 (by decide) ?_
      refine lv_goto (tgt := 329) hx hb d_Mo_take_325 (by decide) ?_
      exact T329 x2 t0 (((6 : Int32) * M_blocks) + (2 : Int32)) (1 : Int32) M_blocks M_lastMaster M_marks M_wrongs g8 M_bytes M_lastCounts M_word M_values M_system M_solved M_wrong M_rights hm _ _ hP hD hS _ (lv_sub hl [1, 2, 0] rfl)
  have T274 : ∀ (x2 : Int32) (x3 : Int32) (x4 : Int32) (M_blocks : Int32) (M_lastMaster : Int32) (M_marks : Nat → Int32) (M_wrongs : Nat → Int32) (M_tells : Nat → Int32) (M_bytes : Nat → Int32) (M_lastCounts : Nat → Int32) (M_word : Nat → Int32) (M_values : Nat → Int32) (M_system : Nat → Int32) (M_solved : Nat → Int32) (M_wrong : Nat → Int32) (M_rights : Nat → Int32), f_Mo_take_274 x2 x3 x4 M_blocks M_lastMaster M_marks M_wrongs M_tells M_bytes M_lastCounts M_word M_values M_system M_solved M_wrong M_rights = some (M_blocks', M_lastMaster', M_marks', M_wrongs', M_tells', M_bytes', M_lastCounts', M_word', M_values', M_system', M_solved', M_wrong', M_rights') → ∀ (H : Heap) (locs : List Loc), va_P D classes (w_Mo_take cI cJ qM qM_marks qM_row qM_wrongs qM_tells qM_bytes qM_lastCounts qM_elements qM_word qM_powers qM_values qM_logarithms qM_forms qM_system qM_solved qM_wrong qM_rights qM_mixer M_thrown M_pattern M_craft M_begins M_firsts M_seconds M_data M_waiting M_master M_counts M_line M_length M_sent M_state M_places M_least M_rowSize M_differ M_depth M_fill M_half M_blocks M_lastMaster M_marks M_row M_wrongs M_tells M_bytes M_lastCounts M_elements M_word M_powers M_values M_logarithms M_forms M_system M_solved M_wrong M_rights M_mixer) H → va_D A (w_Mo_take cI cJ qM qM_marks qM_row qM_wrongs qM_tells qM_bytes qM_lastCounts qM_elements qM_word qM_powers qM_values qM_logarithms qM_forms qM_system qM_solved qM_wrong qM_rights qM_mixer M_thrown M_pattern M_craft M_begins M_firsts M_seconds M_data M_waiting M_master M_counts M_line M_length M_sent M_state M_places M_least M_rowSize M_differ M_depth M_fill M_half M_blocks M_lastMaster M_marks M_row M_wrongs M_tells M_bytes M_lastCounts M_elements M_word M_powers M_values M_logarithms M_forms M_system M_solved M_wrong M_rights M_mixer) → va_S A s.heap H locs → ∀ (ls : Array Slot), lv_has ls 7 [(0, .ref qM), (2, .int x2), (3, .int x3), (4, .int x4)] → W p l e (RM 4 100) s m args below meth c H locs 0 0 Q0 (F0 m 274 ls []) := by
    intro x2 x3 x4 M_blocks M_lastMaster M_marks M_wrongs M_tells M_bytes M_lastCounts M_word M_values M_system M_solved M_wrong M_rights hm H locs hP hD hS ls hl
    unfold f_Mo_take_274 at hm
    refine lv_iconst (v := (0 : Int32)) hx hb d_Mo_take_274 (by decide) ?_
    exact T275 x2 x3 x4 (0 : Int32) M_blocks M_lastMaster M_marks M_wrongs M_tells M_bytes M_lastCounts M_word M_values M_system M_solved M_wrong M_rights hm _ _ hP hD hS _ (lv_sub hl [0, 1, 2, 3] rfl)
  have T230 : ∀ (x2 : Int32) (x3 : Int32) (x4 : Int32) (x5 : Int32) (M_blocks : Int32) (M_lastMaster : Int32) (M_marks : Nat → Int32) (M_wrongs : Nat → Int32) (M_tells : Nat → Int32) (M_bytes : Nat → Int32) (M_lastCounts : Nat → Int32) (M_word : Nat → Int32) (M_values : Nat → Int32) (M_system : Nat → Int32) (M_solved : Nat → Int32) (M_wrong : Nat → Int32) (M_rights : Nat → Int32), f_Mo_take_230 M_depth M_fill M_half x2 x3 x4 x5 M_blocks M_lastMaster M_marks M_wrongs M_tells M_bytes M_lastCounts M_word M_values M_system M_solved M_wrong M_rights = some (M_blocks', M_lastMaster', M_marks', M_wrongs', M_tells', M_bytes', M_lastCounts', M_word', M_values', M_system', M_solved', M_wrong', M_rights') → ∀ (H : Heap) (locs : List Loc), va_P D classes (w_Mo_take cI cJ qM qM_marks qM_row qM_wrongs qM_tells qM_bytes qM_lastCounts qM_elements qM_word qM_powers qM_values qM_logarithms qM_forms qM_system qM_solved qM_wrong qM_rights qM_mixer M_thrown M_pattern M_craft M_begins M_firsts M_seconds M_data M_waiting M_master M_counts M_line M_length M_sent M_state M_places M_least M_rowSize M_differ M_depth M_fill M_half M_blocks M_lastMaster M_marks M_row M_wrongs M_tells M_bytes M_lastCounts M_elements M_word M_powers M_values M_logarithms M_forms M_system M_solved M_wrong M_rights M_mixer) H → va_D A (w_Mo_take cI cJ qM qM_marks qM_row qM_wrongs qM_tells qM_bytes qM_lastCounts qM_elements qM_word qM_powers qM_values qM_logarithms qM_forms qM_system qM_solved qM_wrong qM_rights qM_mixer M_thrown M_pattern M_craft M_begins M_firsts M_seconds M_data M_waiting M_master M_counts M_line M_length M_sent M_state M_places M_least M_rowSize M_differ M_depth M_fill M_half M_blocks M_lastMaster M_marks M_row M_wrongs M_tells M_bytes M_lastCounts M_elements M_word M_powers M_values M_logarithms M_forms M_system M_solved M_wrong M_rights M_mixer) → va_S A s.heap H locs → ∀ (ls : Array Slot), lv_has ls 7 [(0, .ref qM), (2, .int x2), (3, .int x3), (4, .int x4), (5, .int x5)] → W p l e (RM 4 100) s m args below meth c H locs 0 0 Q0 (F0 m 230 ls []) := by
    intro x2 x3 x4 x5 M_blocks M_lastMaster M_marks M_wrongs M_tells M_bytes M_lastCounts M_word M_values M_system M_solved M_wrong M_rights hm H locs hP hD hS ls hl
    unfold f_Mo_take_230 at hm
    refine lv_iload_n hx hb d_Mo_take_230 rfl (lv_at hl 2 rfl) ?_
    refine z_ifn hm (lv_if_ne (tgt := 274) hx hb d_Mo_take_231 (by decide)) (fun hm => ?_) (fun hm => ?_)
    · refine lv_iload hx hb d_Mo_take_234 (lv_at hl 4 rfl) ?_
      refine lv_sipush (v := (256 : Int32)) hx hb d_Mo_take_236 (by decide) ?_
      refine lv_aload_n hx hb d_Mo_take_239 rfl (lv_at hl 0 rfl) ?_
      refine va_get (D := D) (ci := 11) (v := .ref qM_bytes) (C := "DeepChannelModel") (T := fT_Mo) (N := 40) hx hb hts u_Mo hown hK hP 0 rfl rfl 30 (by decide) (hts _ k_916) (fun _ h9 => h9) rfl d_Mo_take_240 ?_
      refine lv_iload_n hx hb d_Mo_take_243 rfl (lv_at hl 1 rfl) ?_
      refine lv_aload_n hx hb d_Mo_take_244 rfl (lv_at hl 0 rfl) ?_
      obtain ⟨r9, hu, hm⟩ := bd_el hm
      replace hm := nm_1 hm
      refine z_cVi (wc := w_Mo_frameSize cI cJ qM M_thrown M_pattern M_craft M_begins M_firsts M_seconds (.ref qM_powers) (.ref qM_logarithms) (.ref qM_forms) (.ref qM_elements) (.ref qM_mixer) M_data M_waiting M_master M_counts M_line M_length M_sent M_state M_places M_least (.ref qM_row) M_rowSize M_differ (.int M_blocks) (.ref qM_marks) (.ref qM_wrongs) (.ref qM_bytes) (.ref qM_rights) (.ref qM_tells) (.int M_lastMaster) (.ref qM_lastCounts) (.ref qM_word) (.ref qM_values) (.ref qM_system) (.ref qM_solved) (.ref qM_wrong) M_depth M_fill M_half) (wc' := w_Mo_frameSize cI cJ qM M_thrown M_pattern M_craft M_begins M_firsts M_seconds (.ref qM_powers) (.ref qM_logarithms) (.ref qM_forms) (.ref qM_elements) (.ref qM_mixer) M_data M_waiting M_master M_counts M_line M_length M_sent M_state M_places M_least (.ref qM_row) M_rowSize M_differ (.int M_blocks) (.ref qM_marks) (.ref qM_wrongs) (.ref qM_bytes) (.ref qM_rights) (.ref qM_tells) (.int M_lastMaster) (.ref qM_lastCounts) (.ref qM_word) (.ref qM_values) (.ref qM_system) (.ref qM_solved) (.ref qM_wrong) M_depth M_fill M_half) (wr := [(qM_marks, .inl (cI, 16, .inl M_marks)), (qM_row, .inl (cI, 3600, .inl M_row)), (qM_wrongs, .inl (cI, 16, .inl M_wrongs)), (qM_tells, .inl (cI, 96, .inl M_tells)), (qM_bytes, .inl (cI, 4000, .inl M_bytes)), (qM_lastCounts, .inl (cI, 8, .inl M_lastCounts)), (qM_elements, .inl (cI, 256, .inl M_elements)), (qM_word, .inl (cI, 255, .inl M_word)), (qM_powers, .inl (cI, 255, .inl M_powers)), (qM_values, .inl (cI, 32, .inl M_values)), (qM_logarithms, .inl (cI, 256, .inl M_logarithms)), (qM_forms, .inl (cI, 256, .inl M_forms)), (qM_system, .inl (cI, 1056, .inl M_system)), (qM_solved, .inl (cI, 32, .inl M_solved)), (qM_wrong, .inl (cI, 16, .inl M_wrong)), (qM_rights, .inl (cI, 128, .inl M_rights)), (qM_mixer, .inl (cI, 250, .inl M_mixer))]) (As := []) (rest := [.int x2, .ref qM_bytes, .int (256 : Int32), .int x5]) (c_Mo_frameSize l D cI cJ tt qM M_thrown M_pattern M_craft M_begins M_firsts M_seconds (.ref qM_powers) (.ref qM_logarithms) (.ref qM_forms) (.ref qM_elements) (.ref qM_mixer) M_data M_waiting M_master M_counts M_line M_length M_sent M_state M_places M_least (.ref qM_row) M_rowSize M_differ (.int M_blocks) (.ref qM_marks) (.ref qM_wrongs) (.ref qM_bytes) (.ref qM_rights) (.ref qM_tells) (.int M_lastMaster) (.ref qM_lastCounts) (.ref qM_word) (.ref qM_values) (.ref qM_system) (.ref qM_solved) (.ref qM_wrong) _ M_depth M_fill M_half r9 hu) F ok_Mo_frameSize rfl k_1026 hK hE hP hD hS hA [0] [1, 2, 3, 4, 5, 6, 7, 8, 9, 10, 11, 12, 13, 14, 15, 16, 17] rfl rfl (by decide) (by decide) (by decide) 0 rfl rfl rfl ⟨rfl, rfl, Nat.le_of_ble_eq_true rfl, Nat.le_of_ble_eq_true rfl⟩ ⟨Nat.zero_le _, Nat.zero_le _⟩ rfl hl.1 rfl (Nat.le_of_ble_eq_true rfl) d_Mo_take_245 (fun H locs hP hD hS => ?_)
      have hP : va_P D classes (w_Mo_take cI cJ qM qM_marks qM_row qM_wrongs qM_tells qM_bytes qM_lastCounts qM_elements qM_word qM_powers qM_values qM_logarithms qM_forms qM_system qM_solved qM_wrong qM_rights qM_mixer M_thrown M_pattern M_craft M_begins M_firsts M_seconds M_data M_waiting M_master M_counts M_line M_length M_sent M_state M_places M_least M_rowSize M_differ M_depth M_fill M_half M_blocks M_lastMaster M_marks M_row M_wrongs M_tells M_bytes M_lastCounts M_elements M_word M_powers M_values M_logarithms M_forms M_system M_solved M_wrong M_rights M_mixer) H := hP.sub [17, 0, 1, 2, 3, 4, 5, 6, 7, 8, 9, 10, 11, 12, 13, 14, 15, 16] rfl
      have hD : va_D A (w_Mo_take cI cJ qM qM_marks qM_row qM_wrongs qM_tells qM_bytes qM_lastCounts qM_elements qM_word qM_powers qM_values qM_logarithms qM_forms qM_system qM_solved qM_wrong qM_rights qM_mixer M_thrown M_pattern M_craft M_begins M_firsts M_seconds M_data M_waiting M_master M_counts M_line M_length M_sent M_state M_places M_least M_rowSize M_differ M_depth M_fill M_half M_blocks M_lastMaster M_marks M_row M_wrongs M_tells M_bytes M_lastCounts M_elements M_word M_powers M_values M_logarithms M_forms M_system M_solved M_wrong M_rights M_mixer) := hD.sub [17, 0, 1, 2, 3, 4, 5, 6, 7, 8, 9, 10, 11, 12, 13, 14, 15, 16] (by decide) rfl
      refine lv_iadd hx hb d_Mo_take_248 ?_
      refine lv_iconst (v := (2 : Int32)) hx hb d_Mo_take_249 (by decide) ?_
      refine lv_isub hx hb d_Mo_take_250 ?_
      refine z_iald hm hx hb hK hP 5 rfl d_Mo_take_251 (fun v11 hm => ?_)
      refine lv_imul hx hb d_Mo_take_252 ?_
      refine lv_aload_n hx hb d_Mo_take_253 rfl (lv_at hl 0 rfl) ?_
      refine va_get (D := D) (ci := 11) (v := .ref qM_bytes) (C := "DeepChannelModel") (T := fT_Mo) (N := 40) hx hb hts u_Mo hown hK hP 0 rfl rfl 30 (by decide) (hts _ k_916) (fun _ h9 => h9) rfl d_Mo_take_254 ?_
      refine lv_iload_n hx hb d_Mo_take_257 rfl (lv_at hl 1 rfl) ?_
      refine lv_aload_n hx hb d_Mo_take_258 rfl (lv_at hl 0 rfl) ?_
      obtain ⟨r12, hu, hm⟩ := bd_el hm
      replace hm := nm_1 hm
      refine z_cVi (wc := w_Mo_frameSize cI cJ qM M_thrown M_pattern M_craft M_begins M_firsts M_seconds (.ref qM_powers) (.ref qM_logarithms) (.ref qM_forms) (.ref qM_elements) (.ref qM_mixer) M_data M_waiting M_master M_counts M_line M_length M_sent M_state M_places M_least (.ref qM_row) M_rowSize M_differ (.int M_blocks) (.ref qM_marks) (.ref qM_wrongs) (.ref qM_bytes) (.ref qM_rights) (.ref qM_tells) (.int M_lastMaster) (.ref qM_lastCounts) (.ref qM_word) (.ref qM_values) (.ref qM_system) (.ref qM_solved) (.ref qM_wrong) M_depth M_fill M_half) (wc' := w_Mo_frameSize cI cJ qM M_thrown M_pattern M_craft M_begins M_firsts M_seconds (.ref qM_powers) (.ref qM_logarithms) (.ref qM_forms) (.ref qM_elements) (.ref qM_mixer) M_data M_waiting M_master M_counts M_line M_length M_sent M_state M_places M_least (.ref qM_row) M_rowSize M_differ (.int M_blocks) (.ref qM_marks) (.ref qM_wrongs) (.ref qM_bytes) (.ref qM_rights) (.ref qM_tells) (.int M_lastMaster) (.ref qM_lastCounts) (.ref qM_word) (.ref qM_values) (.ref qM_system) (.ref qM_solved) (.ref qM_wrong) M_depth M_fill M_half) (wr := [(qM_marks, .inl (cI, 16, .inl M_marks)), (qM_row, .inl (cI, 3600, .inl M_row)), (qM_wrongs, .inl (cI, 16, .inl M_wrongs)), (qM_tells, .inl (cI, 96, .inl M_tells)), (qM_bytes, .inl (cI, 4000, .inl M_bytes)), (qM_lastCounts, .inl (cI, 8, .inl M_lastCounts)), (qM_elements, .inl (cI, 256, .inl M_elements)), (qM_word, .inl (cI, 255, .inl M_word)), (qM_powers, .inl (cI, 255, .inl M_powers)), (qM_values, .inl (cI, 32, .inl M_values)), (qM_logarithms, .inl (cI, 256, .inl M_logarithms)), (qM_forms, .inl (cI, 256, .inl M_forms)), (qM_system, .inl (cI, 1056, .inl M_system)), (qM_solved, .inl (cI, 32, .inl M_solved)), (qM_wrong, .inl (cI, 16, .inl M_wrong)), (qM_rights, .inl (cI, 128, .inl M_rights)), (qM_mixer, .inl (cI, 250, .inl M_mixer))]) (As := []) (rest := [.int x2, .ref qM_bytes, .int ((256 : Int32) * v11), .int x5]) (c_Mo_frameSize l D cI cJ tt qM M_thrown M_pattern M_craft M_begins M_firsts M_seconds (.ref qM_powers) (.ref qM_logarithms) (.ref qM_forms) (.ref qM_elements) (.ref qM_mixer) M_data M_waiting M_master M_counts M_line M_length M_sent M_state M_places M_least (.ref qM_row) M_rowSize M_differ (.int M_blocks) (.ref qM_marks) (.ref qM_wrongs) (.ref qM_bytes) (.ref qM_rights) (.ref qM_tells) (.int M_lastMaster) (.ref qM_lastCounts) (.ref qM_word) (.ref qM_values) (.ref qM_system) (.ref qM_solved) (.ref qM_wrong) _ M_depth M_fill M_half r12 hu) F ok_Mo_frameSize rfl k_1026 hK hE hP hD hS hA [0] [1, 2, 3, 4, 5, 6, 7, 8, 9, 10, 11, 12, 13, 14, 15, 16, 17] rfl rfl (by decide) (by decide) (by decide) 0 rfl rfl rfl ⟨rfl, rfl, Nat.le_of_ble_eq_true rfl, Nat.le_of_ble_eq_true rfl⟩ ⟨Nat.zero_le _, Nat.zero_le _⟩ rfl hl.1 rfl (Nat.le_of_ble_eq_true rfl) d_Mo_take_259 (fun H locs hP hD hS => ?_)
      have hP : va_P D classes (w_Mo_take cI cJ qM qM_marks qM_row qM_wrongs qM_tells qM_bytes qM_lastCounts qM_elements qM_word qM_powers qM_values qM_logarithms qM_forms qM_system qM_solved qM_wrong qM_rights qM_mixer M_thrown M_pattern M_craft M_begins M_firsts M_seconds M_data M_waiting M_master M_counts M_line M_length M_sent M_state M_places M_least M_rowSize M_differ M_depth M_fill M_half M_blocks M_lastMaster M_marks M_row M_wrongs M_tells M_bytes M_lastCounts M_elements M_word M_powers M_values M_logarithms M_forms M_system M_solved M_wrong M_rights M_mixer) H := hP.sub [17, 0, 1, 2, 3, 4, 5, 6, 7, 8, 9, 10, 11, 12, 13, 14, 15, 16] rfl
      have hD : va_D A (w_Mo_take cI cJ qM qM_marks qM_row qM_wrongs qM_tells qM_bytes qM_lastCounts qM_elements qM_word qM_powers qM_values qM_logarithms qM_forms qM_system qM_solved qM_wrong qM_rights qM_mixer M_thrown M_pattern M_craft M_begins M_firsts M_seconds M_data M_waiting M_master M_counts M_line M_length M_sent M_state M_places M_least M_rowSize M_differ M_depth M_fill M_half M_blocks M_lastMaster M_marks M_row M_wrongs M_tells M_bytes M_lastCounts M_elements M_word M_powers M_values M_logarithms M_forms M_system M_solved M_wrong M_rights M_mixer) := hD.sub [17, 0, 1, 2, 3, 4, 5, 6, 7, 8, 9, 10, 11, 12, 13, 14, 15, 16] (by decide) rfl
      refine lv_iadd hx hb d_Mo_take_262 ?_
      refine lv_iconst (v := (1 : Int32)) hx hb d_Mo_take_263 (by decide) ?_
      refine lv_isub hx hb d_Mo_take_264 ?_
      refine z_iald hm hx hb hK hP 5 rfl d_Mo_take_265 (fun v14 hm => ?_)
      refine lv_iadd hx hb d_Mo_take_266 ?_
      refine z_ifn hm (lv_icmp_ne (tgt := 274) hx hb d_Mo_take_267 (by decide)) (fun hm => ?_) (fun hm => ?_)
      · refine lv_iconst (v := (1 : Int32)) hx hb d_Mo_take_270 (by decide) ?_
        refine lv_goto (tgt := 275) hx hb d_Mo_take_271 (by decide) ?_
        exact T275 x2 x3 x4 (1 : Int32) M_blocks M_lastMaster M_marks M_wrongs M_tells M_bytes M_lastCounts M_word M_values M_system M_solved M_wrong M_rights hm _ _ hP hD hS _ (lv_sub hl [0, 1, 2, 3] rfl)
      · exact T274 x2 x3 x4 M_blocks M_lastMaster M_marks M_wrongs M_tells M_bytes M_lastCounts M_word M_values M_system M_solved M_wrong M_rights hm _ _ hP hD hS _ (lv_sub hl [0, 1, 2, 3] rfl)
    · exact T274 x2 x3 x4 M_blocks M_lastMaster M_marks M_wrongs M_tells M_bytes M_lastCounts M_word M_values M_system M_solved M_wrong M_rights hm _ _ hP hD hS _ (lv_sub hl [0, 1, 2, 3] rfl)
  have T197 : ∀ (n197 : Nat) (x2 : Int32) (x3 : Int32) (x4 : Int32) (x5 : Int32) (x6 : Int32) (M_blocks : Int32) (M_lastMaster : Int32) (M_marks : Nat → Int32) (M_wrongs : Nat → Int32) (M_tells : Nat → Int32) (M_bytes : Nat → Int32) (M_lastCounts : Nat → Int32) (M_word : Nat → Int32) (M_values : Nat → Int32) (M_system : Nat → Int32) (M_solved : Nat → Int32) (M_wrong : Nat → Int32) (M_rights : Nat → Int32), f_Mo_take_197 M_depth M_fill M_half n197 x2 x3 x4 x5 x6 M_blocks M_lastMaster M_marks M_wrongs M_tells M_bytes M_lastCounts M_word M_values M_system M_solved M_wrong M_rights = some (M_blocks', M_lastMaster', M_marks', M_wrongs', M_tells', M_bytes', M_lastCounts', M_word', M_values', M_system', M_solved', M_wrong', M_rights') → ∀ (H : Heap) (locs : List Loc), va_P D classes (w_Mo_take cI cJ qM qM_marks qM_row qM_wrongs qM_tells qM_bytes qM_lastCounts qM_elements qM_word qM_powers qM_values qM_logarithms qM_forms qM_system qM_solved qM_wrong qM_rights qM_mixer M_thrown M_pattern M_craft M_begins M_firsts M_seconds M_data M_waiting M_master M_counts M_line M_length M_sent M_state M_places M_least M_rowSize M_differ M_depth M_fill M_half M_blocks M_lastMaster M_marks M_row M_wrongs M_tells M_bytes M_lastCounts M_elements M_word M_powers M_values M_logarithms M_forms M_system M_solved M_wrong M_rights M_mixer) H → va_D A (w_Mo_take cI cJ qM qM_marks qM_row qM_wrongs qM_tells qM_bytes qM_lastCounts qM_elements qM_word qM_powers qM_values qM_logarithms qM_forms qM_system qM_solved qM_wrong qM_rights qM_mixer M_thrown M_pattern M_craft M_begins M_firsts M_seconds M_data M_waiting M_master M_counts M_line M_length M_sent M_state M_places M_least M_rowSize M_differ M_depth M_fill M_half M_blocks M_lastMaster M_marks M_row M_wrongs M_tells M_bytes M_lastCounts M_elements M_word M_powers M_values M_logarithms M_forms M_system M_solved M_wrong M_rights M_mixer) → va_S A s.heap H locs → ∀ (ls : Array Slot), lv_has ls 7 [(0, .ref qM), (2, .int x2), (3, .int x3), (4, .int x4), (5, .int x5), (6, .int x6)] → W p l e (RM 4 100) s m args below meth c H locs 0 0 Q0 (F0 m 197 ls []) := by
    intro n197
    induction n197 with
    | zero => intro x2 x3 x4 x5 x6 M_blocks M_lastMaster M_marks M_wrongs M_tells M_bytes M_lastCounts M_word M_values M_system M_solved M_wrong M_rights hm; cases hm
    | succ n197 ih197 =>
      intro x2 x3 x4 x5 x6 M_blocks M_lastMaster M_marks M_wrongs M_tells M_bytes M_lastCounts M_word M_values M_system M_solved M_wrong M_rights hm H locs hP hD hS ls hl
      replace hm : f_Mo_take_197_b M_depth M_fill M_half (f_Mo_take_197 M_depth M_fill M_half n197) x2 x3 x4 x5 x6 M_blocks M_lastMaster M_marks M_wrongs M_tells M_bytes M_lastCounts M_word M_values M_system M_solved M_wrong M_rights = some (M_blocks', M_lastMaster', M_marks', M_wrongs', M_tells', M_bytes', M_lastCounts', M_word', M_values', M_system', M_solved', M_wrong', M_rights') := hm
      unfold f_Mo_take_197_b at hm
      refine lv_iload hx hb d_Mo_take_197 (lv_at hl 5 rfl) ?_
      refine lv_aload_n hx hb d_Mo_take_199 rfl (lv_at hl 0 rfl) ?_
      obtain ⟨r15, hu, hm⟩ := bd_el hm
      replace hm := nm_1 hm
      refine z_cVi (wc := w_Mo_frameSize cI cJ qM M_thrown M_pattern M_craft M_begins M_firsts M_seconds (.ref qM_powers) (.ref qM_logarithms) (.ref qM_forms) (.ref qM_elements) (.ref qM_mixer) M_data M_waiting M_master M_counts M_line M_length M_sent M_state M_places M_least (.ref qM_row) M_rowSize M_differ (.int M_blocks) (.ref qM_marks) (.ref qM_wrongs) (.ref qM_bytes) (.ref qM_rights) (.ref qM_tells) (.int M_lastMaster) (.ref qM_lastCounts) (.ref qM_word) (.ref qM_values) (.ref qM_system) (.ref qM_solved) (.ref qM_wrong) M_depth M_fill M_half) (wc' := w_Mo_frameSize cI cJ qM M_thrown M_pattern M_craft M_begins M_firsts M_seconds (.ref qM_powers) (.ref qM_logarithms) (.ref qM_forms) (.ref qM_elements) (.ref qM_mixer) M_data M_waiting M_master M_counts M_line M_length M_sent M_state M_places M_least (.ref qM_row) M_rowSize M_differ (.int M_blocks) (.ref qM_marks) (.ref qM_wrongs) (.ref qM_bytes) (.ref qM_rights) (.ref qM_tells) (.int M_lastMaster) (.ref qM_lastCounts) (.ref qM_word) (.ref qM_values) (.ref qM_system) (.ref qM_solved) (.ref qM_wrong) M_depth M_fill M_half) (wr := [(qM_marks, .inl (cI, 16, .inl M_marks)), (qM_row, .inl (cI, 3600, .inl M_row)), (qM_wrongs, .inl (cI, 16, .inl M_wrongs)), (qM_tells, .inl (cI, 96, .inl M_tells)), (qM_bytes, .inl (cI, 4000, .inl M_bytes)), (qM_lastCounts, .inl (cI, 8, .inl M_lastCounts)), (qM_elements, .inl (cI, 256, .inl M_elements)), (qM_word, .inl (cI, 255, .inl M_word)), (qM_powers, .inl (cI, 255, .inl M_powers)), (qM_values, .inl (cI, 32, .inl M_values)), (qM_logarithms, .inl (cI, 256, .inl M_logarithms)), (qM_forms, .inl (cI, 256, .inl M_forms)), (qM_system, .inl (cI, 1056, .inl M_system)), (qM_solved, .inl (cI, 32, .inl M_solved)), (qM_wrong, .inl (cI, 16, .inl M_wrong)), (qM_rights, .inl (cI, 128, .inl M_rights)), (qM_mixer, .inl (cI, 250, .inl M_mixer))]) (As := []) (rest := [.int x6]) (c_Mo_frameSize l D cI cJ tt qM M_thrown M_pattern M_craft M_begins M_firsts M_seconds (.ref qM_powers) (.ref qM_logarithms) (.ref qM_forms) (.ref qM_elements) (.ref qM_mixer) M_data M_waiting M_master M_counts M_line M_length M_sent M_state M_places M_least (.ref qM_row) M_rowSize M_differ (.int M_blocks) (.ref qM_marks) (.ref qM_wrongs) (.ref qM_bytes) (.ref qM_rights) (.ref qM_tells) (.int M_lastMaster) (.ref qM_lastCounts) (.ref qM_word) (.ref qM_values) (.ref qM_system) (.ref qM_solved) (.ref qM_wrong) _ M_depth M_fill M_half r15 hu) F ok_Mo_frameSize rfl k_1026 hK hE hP hD hS hA [0] [1, 2, 3, 4, 5, 6, 7, 8, 9, 10, 11, 12, 13, 14, 15, 16, 17] rfl rfl (by decide) (by decide) (by decide) 0 rfl rfl rfl ⟨rfl, rfl, Nat.le_of_ble_eq_true rfl, Nat.le_of_ble_eq_true rfl⟩ ⟨Nat.zero_le _, Nat.zero_le _⟩ rfl hl.1 rfl (Nat.le_of_ble_eq_true rfl) d_Mo_take_200 (fun H locs hP hD hS => ?_)
      have hP : va_P D classes (w_Mo_take cI cJ qM qM_marks qM_row qM_wrongs qM_tells qM_bytes qM_lastCounts qM_elements qM_word qM_powers qM_values qM_logarithms qM_forms qM_system qM_solved qM_wrong qM_rights qM_mixer M_thrown M_pattern M_craft M_begins M_firsts M_seconds M_data M_waiting M_master M_counts M_line M_length M_sent M_state M_places M_least M_rowSize M_differ M_depth M_fill M_half M_blocks M_lastMaster M_marks M_row M_wrongs M_tells M_bytes M_lastCounts M_elements M_word M_powers M_values M_logarithms M_forms M_system M_solved M_wrong M_rights M_mixer) H := hP.sub [17, 0, 1, 2, 3, 4, 5, 6, 7, 8, 9, 10, 11, 12, 13, 14, 15, 16] rfl
      have hD : va_D A (w_Mo_take cI cJ qM qM_marks qM_row qM_wrongs qM_tells qM_bytes qM_lastCounts qM_elements qM_word qM_powers qM_values qM_logarithms qM_forms qM_system qM_solved qM_wrong qM_rights qM_mixer M_thrown M_pattern M_craft M_begins M_firsts M_seconds M_data M_waiting M_master M_counts M_line M_length M_sent M_state M_places M_least M_rowSize M_differ M_depth M_fill M_half M_blocks M_lastMaster M_marks M_row M_wrongs M_tells M_bytes M_lastCounts M_elements M_word M_powers M_values M_logarithms M_forms M_system M_solved M_wrong M_rights M_mixer) := hD.sub [17, 0, 1, 2, 3, 4, 5, 6, 7, 8, 9, 10, 11, 12, 13, 14, 15, 16] (by decide) rfl
      refine lv_iconst (v := (2 : Int32)) hx hb d_Mo_take_203 (by decide) ?_
      refine lv_isub hx hb d_Mo_take_204 ?_
      refine z_if hm (lv_icmp_ge (tgt := 230) hx hb d_Mo_take_205 (by decide)) (fun hm => ?_) (fun hm => ?_)
      · exact T230 x2 x3 x4 x5 M_blocks M_lastMaster M_marks M_wrongs M_tells M_bytes M_lastCounts M_word M_values M_system M_solved M_wrong M_rights hm _ _ hP hD hS _ (lv_sub hl [0, 1, 2, 3, 4] rfl)
      · refine lv_iload hx hb d_Mo_take_208 (lv_at hl 4 rfl) ?_
        refine lv_aload_n hx hb d_Mo_take_210 rfl (lv_at hl 0 rfl) ?_
        refine va_get (D := D) (ci := 11) (v := .ref qM_bytes) (C := "DeepChannelModel") (T := fT_Mo) (N := 40) hx hb hts u_Mo hown hK hP 0 rfl rfl 30 (by decide) (hts _ k_916) (fun _ h9 => h9) rfl d_Mo_take_211 ?_
        refine lv_iload_n hx hb d_Mo_take_214 rfl (lv_at hl 1 rfl) ?_
        refine lv_iload hx hb d_Mo_take_215 (lv_at hl 5 rfl) ?_
        refine lv_iadd hx hb d_Mo_take_217 ?_
        refine z_iald hm hx hb hK hP 5 rfl d_Mo_take_218 (fun v17 hm => ?_)
        obtain ⟨r18, hu, hm⟩ := bd_el hm
        replace hm := nm_1 hm
        refine z_cSi (wc := w_Mo_checkOn) (wc' := w_Mo_checkOn) (wr := [(qM, .inr (11, [M_thrown, .int M_depth, .int M_fill, .int M_half, M_pattern, M_craft, M_begins, M_firsts, M_seconds, .ref qM_powers, .ref qM_logarithms, .ref qM_forms, .ref qM_elements, .ref qM_mixer, M_data, M_waiting, M_master, M_counts, M_line, M_length, M_sent, M_state, M_places, M_least, .ref qM_row, M_rowSize, M_differ, .int M_blocks, .ref qM_marks, .ref qM_wrongs, .ref qM_bytes, .ref qM_rights, .ref qM_tells, .int M_lastMaster, .ref qM_lastCounts, .ref qM_word, .ref qM_values, .ref qM_system, .ref qM_solved, .ref qM_wrong])), (qM_marks, .inl (cI, 16, .inl M_marks)), (qM_row, .inl (cI, 3600, .inl M_row)), (qM_wrongs, .inl (cI, 16, .inl M_wrongs)), (qM_tells, .inl (cI, 96, .inl M_tells)), (qM_bytes, .inl (cI, 4000, .inl M_bytes)), (qM_lastCounts, .inl (cI, 8, .inl M_lastCounts)), (qM_elements, .inl (cI, 256, .inl M_elements)), (qM_word, .inl (cI, 255, .inl M_word)), (qM_powers, .inl (cI, 255, .inl M_powers)), (qM_values, .inl (cI, 32, .inl M_values)), (qM_logarithms, .inl (cI, 256, .inl M_logarithms)), (qM_forms, .inl (cI, 256, .inl M_forms)), (qM_system, .inl (cI, 1056, .inl M_system)), (qM_solved, .inl (cI, 32, .inl M_solved)), (qM_wrong, .inl (cI, 16, .inl M_wrong)), (qM_rights, .inl (cI, 128, .inl M_rights)), (qM_mixer, .inl (cI, 250, .inl M_mixer))]) (As := [.int x5, .int v17]) (rest := []) (c_Mo_checkOn l D cI cJ tt _ x5 v17 r18 hu) F ok_Mo_checkOn k_1075 hK hE hP hD hS hA [] [0, 1, 2, 3, 4, 5, 6, 7, 8, 9, 10, 11, 12, 13, 14, 15, 16, 17] rfl rfl (by decide) (by decide) (by decide) ⟨rfl, rfl, Nat.le_of_ble_eq_true rfl, Nat.le_of_ble_eq_true rfl⟩ ⟨Nat.zero_le _, Nat.zero_le _⟩ rfl hl.1 rfl (Nat.le_of_ble_eq_true rfl) d_Mo_take_219 (fun H locs hP hD hS => ?_)
        have hP : va_P D classes (w_Mo_take cI cJ qM qM_marks qM_row qM_wrongs qM_tells qM_bytes qM_lastCounts qM_elements qM_word qM_powers qM_values qM_logarithms qM_forms qM_system qM_solved qM_wrong qM_rights qM_mixer M_thrown M_pattern M_craft M_begins M_firsts M_seconds M_data M_waiting M_master M_counts M_line M_length M_sent M_state M_places M_least M_rowSize M_differ M_depth M_fill M_half M_blocks M_lastMaster M_marks M_row M_wrongs M_tells M_bytes M_lastCounts M_elements M_word M_powers M_values M_logarithms M_forms M_system M_solved M_wrong M_rights M_mixer) H := hP.sub [0, 1, 2, 3, 4, 5, 6, 7, 8, 9, 10, 11, 12, 13, 14, 15, 16, 17] rfl
        have hD : va_D A (w_Mo_take cI cJ qM qM_marks qM_row qM_wrongs qM_tells qM_bytes qM_lastCounts qM_elements qM_word qM_powers qM_values qM_logarithms qM_forms qM_system qM_solved qM_wrong qM_rights qM_mixer M_thrown M_pattern M_craft M_begins M_firsts M_seconds M_data M_waiting M_master M_counts M_line M_length M_sent M_state M_places M_least M_rowSize M_differ M_depth M_fill M_half M_blocks M_lastMaster M_marks M_row M_wrongs M_tells M_bytes M_lastCounts M_elements M_word M_powers M_values M_logarithms M_forms M_system M_solved M_wrong M_rights M_mixer) := hD.sub [0, 1, 2, 3, 4, 5, 6, 7, 8, 9, 10, 11, 12, 13, 14, 15, 16, 17] (by decide) rfl
        refine lv_istore (lv' := [(5, .int r18), (0, .ref qM), (2, .int x2), (3, .int x3), (4, .int x4), (6, .int x6)]) hx hb d_Mo_take_222 hl (by decide) rfl (fun ls hl => ?_)
        obtain ⟨v20, ev, hm⟩ := nm_el hm
        refine lv_iinc (v := v20) (lv' := [(6, .int v20), (5, .int r18), (0, .ref qM), (2, .int x2), (3, .int x3), (4, .int x4)]) hx hb d_Mo_take_224 hl (k := 5) rfl (by rw [ev]; rfl) (by decide) rfl (fun ls hl => ?_)
        refine lv_goto (tgt := 197) hx hb d_Mo_take_227 (by decide) ?_
        exact ih197 x2 x3 x4 r18 v20 M_blocks M_lastMaster M_marks M_wrongs M_tells M_bytes M_lastCounts M_word M_values M_system M_solved M_wrong M_rights hm _ _ hP hD hS _ (lv_sub hl [2, 3, 4, 5, 1, 0] rfl)
  have T190 : ∀ (x2 : Int32) (x3 : Int32) (x4 : Int32) (M_blocks : Int32) (M_lastMaster : Int32) (M_marks : Nat → Int32) (M_wrongs : Nat → Int32) (M_tells : Nat → Int32) (M_bytes : Nat → Int32) (M_lastCounts : Nat → Int32) (M_word : Nat → Int32) (M_values : Nat → Int32) (M_system : Nat → Int32) (M_solved : Nat → Int32) (M_wrong : Nat → Int32) (M_rights : Nat → Int32), f_Mo_take_190 M_depth M_fill M_half x2 x3 x4 M_blocks M_lastMaster M_marks M_wrongs M_tells M_bytes M_lastCounts M_word M_values M_system M_solved M_wrong M_rights = some (M_blocks', M_lastMaster', M_marks', M_wrongs', M_tells', M_bytes', M_lastCounts', M_word', M_values', M_system', M_solved', M_wrong', M_rights') → ∀ (H : Heap) (locs : List Loc), va_P D classes (w_Mo_take cI cJ qM qM_marks qM_row qM_wrongs qM_tells qM_bytes qM_lastCounts qM_elements qM_word qM_powers qM_values qM_logarithms qM_forms qM_system qM_solved qM_wrong qM_rights qM_mixer M_thrown M_pattern M_craft M_begins M_firsts M_seconds M_data M_waiting M_master M_counts M_line M_length M_sent M_state M_places M_least M_rowSize M_differ M_depth M_fill M_half M_blocks M_lastMaster M_marks M_row M_wrongs M_tells M_bytes M_lastCounts M_elements M_word M_powers M_values M_logarithms M_forms M_system M_solved M_wrong M_rights M_mixer) H → va_D A (w_Mo_take cI cJ qM qM_marks qM_row qM_wrongs qM_tells qM_bytes qM_lastCounts qM_elements qM_word qM_powers qM_values qM_logarithms qM_forms qM_system qM_solved qM_wrong qM_rights qM_mixer M_thrown M_pattern M_craft M_begins M_firsts M_seconds M_data M_waiting M_master M_counts M_line M_length M_sent M_state M_places M_least M_rowSize M_differ M_depth M_fill M_half M_blocks M_lastMaster M_marks M_row M_wrongs M_tells M_bytes M_lastCounts M_elements M_word M_powers M_values M_logarithms M_forms M_system M_solved M_wrong M_rights M_mixer) → va_S A s.heap H locs → ∀ (ls : Array Slot), lv_has ls 7 [(0, .ref qM), (2, .int x2), (3, .int x3), (4, .int x4)] → W p l e (RM 4 100) s m args below meth c H locs 0 0 Q0 (F0 m 190 ls []) := by
    intro x2 x3 x4 M_blocks M_lastMaster M_marks M_wrongs M_tells M_bytes M_lastCounts M_word M_values M_system M_solved M_wrong M_rights hm H locs hP hD hS ls hl
    unfold f_Mo_take_190 at hm
    refine lv_ldc (v := (65535 : Int32)) hx hb hown (hts _ k_1070) d_Mo_take_190 ?_
    refine lv_istore (lv' := [(5, .int (65535 : Int32)), (0, .ref qM), (2, .int x2), (3, .int x3), (4, .int x4)]) hx hb d_Mo_take_192 hl (by decide) rfl (fun ls hl => ?_)
    refine lv_iconst (v := (0 : Int32)) hx hb d_Mo_take_194 (by decide) ?_
    refine lv_istore (lv' := [(6, .int (0 : Int32)), (5, .int (65535 : Int32)), (0, .ref qM), (2, .int x2), (3, .int x3), (4, .int x4)]) hx hb d_Mo_take_195 hl (by decide) rfl (fun ls hl => ?_)
    exact T197 10000 x2 x3 x4 (65535 : Int32) (0 : Int32) M_blocks M_lastMaster M_marks M_wrongs M_tells M_bytes M_lastCounts M_word M_values M_system M_solved M_wrong M_rights hm _ _ hP hD hS _ (lv_sub hl [2, 3, 4, 5, 1, 0] rfl)
  have T120 : ∀ (n120 : Nat) (x2 : Int32) (x3 : Int32) (x4 : Int32) (x5 : Int32) (M_blocks : Int32) (M_lastMaster : Int32) (M_marks : Nat → Int32) (M_wrongs : Nat → Int32) (M_tells : Nat → Int32) (M_bytes : Nat → Int32) (M_lastCounts : Nat → Int32) (M_word : Nat → Int32) (M_values : Nat → Int32) (M_system : Nat → Int32) (M_solved : Nat → Int32) (M_wrong : Nat → Int32) (M_rights : Nat → Int32), f_Mo_take_120 M_depth M_fill M_half M_elements M_powers M_logarithms M_forms n120 x2 x3 x4 x5 M_blocks M_lastMaster M_marks M_wrongs M_tells M_bytes M_lastCounts M_word M_values M_system M_solved M_wrong M_rights = some (M_blocks', M_lastMaster', M_marks', M_wrongs', M_tells', M_bytes', M_lastCounts', M_word', M_values', M_system', M_solved', M_wrong', M_rights') → ∀ (H : Heap) (locs : List Loc), va_P D classes (w_Mo_take cI cJ qM qM_marks qM_row qM_wrongs qM_tells qM_bytes qM_lastCounts qM_elements qM_word qM_powers qM_values qM_logarithms qM_forms qM_system qM_solved qM_wrong qM_rights qM_mixer M_thrown M_pattern M_craft M_begins M_firsts M_seconds M_data M_waiting M_master M_counts M_line M_length M_sent M_state M_places M_least M_rowSize M_differ M_depth M_fill M_half M_blocks M_lastMaster M_marks M_row M_wrongs M_tells M_bytes M_lastCounts M_elements M_word M_powers M_values M_logarithms M_forms M_system M_solved M_wrong M_rights M_mixer) H → va_D A (w_Mo_take cI cJ qM qM_marks qM_row qM_wrongs qM_tells qM_bytes qM_lastCounts qM_elements qM_word qM_powers qM_values qM_logarithms qM_forms qM_system qM_solved qM_wrong qM_rights qM_mixer M_thrown M_pattern M_craft M_begins M_firsts M_seconds M_data M_waiting M_master M_counts M_line M_length M_sent M_state M_places M_least M_rowSize M_differ M_depth M_fill M_half M_blocks M_lastMaster M_marks M_row M_wrongs M_tells M_bytes M_lastCounts M_elements M_word M_powers M_values M_logarithms M_forms M_system M_solved M_wrong M_rights M_mixer) → va_S A s.heap H locs → ∀ (ls : Array Slot), lv_has ls 7 [(0, .ref qM), (2, .int x2), (3, .int x3), (4, .int x4), (5, .int x5)] → W p l e (RM 4 100) s m args below meth c H locs 0 0 Q0 (F0 m 120 ls []) := by
    intro n120
    induction n120 with
    | zero => intro x2 x3 x4 x5 M_blocks M_lastMaster M_marks M_wrongs M_tells M_bytes M_lastCounts M_word M_values M_system M_solved M_wrong M_rights hm; cases hm
    | succ n120 ih120 =>
      have T181 : ∀ (x2 : Int32) (x3 : Int32) (x5 : Int32) (t0 : Int32) (t1 : Int32) (M_blocks : Int32) (M_lastMaster : Int32) (M_marks : Nat → Int32) (M_wrongs : Nat → Int32) (M_tells : Nat → Int32) (M_bytes : Nat → Int32) (M_lastCounts : Nat → Int32) (M_word : Nat → Int32) (M_values : Nat → Int32) (M_system : Nat → Int32) (M_solved : Nat → Int32) (M_wrong : Nat → Int32) (M_rights : Nat → Int32), f_Mo_take_181 (f_Mo_take_120 M_depth M_fill M_half M_elements M_powers M_logarithms M_forms n120) x2 x3 x5 t0 t1 M_blocks M_lastMaster M_marks M_wrongs M_tells M_bytes M_lastCounts M_word M_values M_system M_solved M_wrong M_rights = some (M_blocks', M_lastMaster', M_marks', M_wrongs', M_tells', M_bytes', M_lastCounts', M_word', M_values', M_system', M_solved', M_wrong', M_rights') → ∀ (H : Heap) (locs : List Loc), va_P D classes (w_Mo_take cI cJ qM qM_marks qM_row qM_wrongs qM_tells qM_bytes qM_lastCounts qM_elements qM_word qM_powers qM_values qM_logarithms qM_forms qM_system qM_solved qM_wrong qM_rights qM_mixer M_thrown M_pattern M_craft M_begins M_firsts M_seconds M_data M_waiting M_master M_counts M_line M_length M_sent M_state M_places M_least M_rowSize M_differ M_depth M_fill M_half M_blocks M_lastMaster M_marks M_row M_wrongs M_tells M_bytes M_lastCounts M_elements M_word M_powers M_values M_logarithms M_forms M_system M_solved M_wrong M_rights M_mixer) H → va_D A (w_Mo_take cI cJ qM qM_marks qM_row qM_wrongs qM_tells qM_bytes qM_lastCounts qM_elements qM_word qM_powers qM_values qM_logarithms qM_forms qM_system qM_solved qM_wrong qM_rights qM_mixer M_thrown M_pattern M_craft M_begins M_firsts M_seconds M_data M_waiting M_master M_counts M_line M_length M_sent M_state M_places M_least M_rowSize M_differ M_depth M_fill M_half M_blocks M_lastMaster M_marks M_row M_wrongs M_tells M_bytes M_lastCounts M_elements M_word M_powers M_values M_logarithms M_forms M_system M_solved M_wrong M_rights M_mixer) → va_S A s.heap H locs → ∀ (ls : Array Slot), lv_has ls 7 [(0, .ref qM), (2, .int x2), (3, .int x3), (5, .int x5)] → W p l e (RM 4 100) s m args below meth c H locs 0 0 Q0 (F0 m 181 ls [.int t1, .int t0]) := by
        intro x2 x3 x5 t0 t1 M_blocks M_lastMaster M_marks M_wrongs M_tells M_bytes M_lastCounts M_word M_values M_system M_solved M_wrong M_rights hm H locs hP hD hS ls hl
        unfold f_Mo_take_181 at hm
        refine lv_iadd hx hb d_Mo_take_181 ?_
        refine z_nmi hm (fun v21 hm => ?_)
        refine lv_istore (lv' := [(4, .int v21), (0, .ref qM), (2, .int x2), (3, .int x3), (5, .int x5)]) hx hb d_Mo_take_182 hl (by decide) rfl (fun ls hl => ?_)
        obtain ⟨v22, ev, hm⟩ := nm_el hm
        refine lv_iinc (v := v22) (lv' := [(5, .int v22), (4, .int v21), (0, .ref qM), (2, .int x2), (3, .int x3)]) hx hb d_Mo_take_184 hl (k := 4) rfl (by rw [ev]; rfl) (by decide) rfl (fun ls hl => ?_)
        refine lv_goto (tgt := 120) hx hb d_Mo_take_187 (by decide) ?_
        exact ih120 x2 x3 v21 v22 M_blocks M_lastMaster M_marks M_wrongs M_tells M_bytes M_lastCounts M_word M_values M_system M_solved M_wrong M_rights hm _ _ hP hD hS _ (lv_sub hl [2, 3, 4, 1, 0] rfl)
      have T166 : ∀ (x2 : Int32) (x4 : Int32) (x5 : Int32) (x6 : Int32) (t0 : Int32) (t1 : Int32) (M_blocks : Int32) (M_lastMaster : Int32) (M_marks : Nat → Int32) (M_wrongs : Nat → Int32) (M_tells : Nat → Int32) (M_bytes : Nat → Int32) (M_lastCounts : Nat → Int32) (M_word : Nat → Int32) (M_values : Nat → Int32) (M_system : Nat → Int32) (M_solved : Nat → Int32) (M_wrong : Nat → Int32) (M_rights : Nat → Int32), f_Mo_take_166 (f_Mo_take_120 M_depth M_fill M_half M_elements M_powers M_logarithms M_forms n120) x2 x4 x5 x6 t0 t1 M_blocks M_lastMaster M_marks M_wrongs M_tells M_bytes M_lastCounts M_word M_values M_system M_solved M_wrong M_rights = some (M_blocks', M_lastMaster', M_marks', M_wrongs', M_tells', M_bytes', M_lastCounts', M_word', M_values', M_system', M_solved', M_wrong', M_rights') → ∀ (H : Heap) (locs : List Loc), va_P D classes (w_Mo_take cI cJ qM qM_marks qM_row qM_wrongs qM_tells qM_bytes qM_lastCounts qM_elements qM_word qM_powers qM_values qM_logarithms qM_forms qM_system qM_solved qM_wrong qM_rights qM_mixer M_thrown M_pattern M_craft M_begins M_firsts M_seconds M_data M_waiting M_master M_counts M_line M_length M_sent M_state M_places M_least M_rowSize M_differ M_depth M_fill M_half M_blocks M_lastMaster M_marks M_row M_wrongs M_tells M_bytes M_lastCounts M_elements M_word M_powers M_values M_logarithms M_forms M_system M_solved M_wrong M_rights M_mixer) H → va_D A (w_Mo_take cI cJ qM qM_marks qM_row qM_wrongs qM_tells qM_bytes qM_lastCounts qM_elements qM_word qM_powers qM_values qM_logarithms qM_forms qM_system qM_solved qM_wrong qM_rights qM_mixer M_thrown M_pattern M_craft M_begins M_firsts M_seconds M_data M_waiting M_master M_counts M_line M_length M_sent M_state M_places M_least M_rowSize M_differ M_depth M_fill M_half M_blocks M_lastMaster M_marks M_row M_wrongs M_tells M_bytes M_lastCounts M_elements M_word M_powers M_values M_logarithms M_forms M_system M_solved M_wrong M_rights M_mixer) → va_S A s.heap H locs → ∀ (ls : Array Slot), lv_has ls 7 [(0, .ref qM), (2, .int x2), (4, .int x4), (5, .int x5), (6, .int x6)] → W p l e (RM 4 100) s m args below meth c H locs 0 0 Q0 (F0 m 166 ls [.int t1, .int t0]) := by
        intro x2 x4 x5 x6 t0 t1 M_blocks M_lastMaster M_marks M_wrongs M_tells M_bytes M_lastCounts M_word M_values M_system M_solved M_wrong M_rights hm H locs hP hD hS ls hl
        unfold f_Mo_take_166 at hm
        refine lv_iadd hx hb d_Mo_take_166 ?_
        refine z_nmi hm (fun v23 hm => ?_)
        refine lv_istore_n (lv' := [(3, .int v23), (0, .ref qM), (2, .int x2), (4, .int x4), (5, .int x5), (6, .int x6)]) hx hb d_Mo_take_167 rfl hl (by decide) rfl (fun ls hl => ?_)
        refine lv_iload hx hb d_Mo_take_168 (lv_at hl 3 rfl) ?_
        refine lv_iload hx hb d_Mo_take_170 (lv_at hl 5 rfl) ?_
        refine z_if hm (lv_if_ge (tgt := 179) hx hb d_Mo_take_172 (by decide)) (fun hm => ?_) (fun hm => ?_)
        · refine lv_iload hx hb d_Mo_take_179 (lv_at hl 5 rfl) ?_
          exact T181 x2 v23 x5 x4 x6 M_blocks M_lastMaster M_marks M_wrongs M_tells M_bytes M_lastCounts M_word M_values M_system M_solved M_wrong M_rights hm _ _ hP hD hS _ (lv_sub hl [1, 2, 0, 4] rfl)
        · refine lv_iconst (v := (0 : Int32)) hx hb d_Mo_take_175 (by decide) ?_
          refine lv_goto (tgt := 181) hx hb d_Mo_take_176 (by decide) ?_
          exact T181 x2 v23 x5 x4 (0 : Int32) M_blocks M_lastMaster M_marks M_wrongs M_tells M_bytes M_lastCounts M_word M_values M_system M_solved M_wrong M_rights hm _ _ hP hD hS _ (lv_sub hl [1, 2, 0, 4] rfl)
      intro x2 x3 x4 x5 M_blocks M_lastMaster M_marks M_wrongs M_tells M_bytes M_lastCounts M_word M_values M_system M_solved M_wrong M_rights hm H locs hP hD hS ls hl
      replace hm : f_Mo_take_120_b M_depth M_fill M_half M_elements M_powers M_logarithms M_forms (f_Mo_take_120 M_depth M_fill M_half M_elements M_powers M_logarithms M_forms n120) x2 x3 x4 x5 M_blocks M_lastMaster M_marks M_wrongs M_tells M_bytes M_lastCounts M_word M_values M_system M_solved M_wrong M_rights = some (M_blocks', M_lastMaster', M_marks', M_wrongs', M_tells', M_bytes', M_lastCounts', M_word', M_values', M_system', M_solved', M_wrong', M_rights') := hm
      unfold f_Mo_take_120_b at hm
      refine lv_iload hx hb d_Mo_take_120 (lv_at hl 4 rfl) ?_
      refine lv_aload_n hx hb d_Mo_take_122 rfl (lv_at hl 0 rfl) ?_
      refine va_get (D := D) (ci := 11) (v := .int M_depth) (C := "DeepChannelModel") (T := fT_Mo) (N := 40) hx hb hts u_Mo hown hK hP 0 rfl rfl 1 (by decide) (hts _ k_887) (fun _ h9 => h9) rfl d_Mo_take_123 ?_
      refine z_if hm (lv_icmp_ge (tgt := 190) hx hb d_Mo_take_126 (by decide)) (fun hm => ?_) (fun hm => ?_)
      · exact T190 x2 x3 x4 M_blocks M_lastMaster M_marks M_wrongs M_tells M_bytes M_lastCounts M_word M_values M_system M_solved M_wrong M_rights hm _ _ hP hD hS _ (lv_sub hl [0, 1, 2, 3] rfl)
      · refine lv_aload_n hx hb d_Mo_take_129 rfl (lv_at hl 0 rfl) ?_
        refine lv_iload_n hx hb d_Mo_take_130 rfl (lv_at hl 1 rfl) ?_
        refine lv_iload hx hb d_Mo_take_131 (lv_at hl 4 rfl) ?_
        obtain ⟨⟨r24, g25, g26, g27, g28, g29, g30⟩, hu, hm⟩ := bd_el hm
        replace hm := nm_7 hm
        refine z_cVi (wc := w_Mo_mend cI cJ qM qM_bytes qM_elements qM_word qM_powers qM_values qM_logarithms qM_forms qM_system qM_solved qM_wrong M_thrown M_pattern M_craft M_begins M_firsts M_seconds (.ref qM_mixer) M_data M_waiting M_master M_counts M_line M_length M_sent M_state M_places M_least (.ref qM_row) M_rowSize M_differ (.int M_blocks) (.ref qM_marks) (.ref qM_wrongs) (.ref qM_rights) (.ref qM_tells) (.int M_lastMaster) (.ref qM_lastCounts) M_depth M_fill M_half M_bytes M_elements M_word M_powers M_values M_logarithms M_forms M_system M_solved M_wrong) (wc' := w_Mo_mend cI cJ qM qM_bytes qM_elements qM_word qM_powers qM_values qM_logarithms qM_forms qM_system qM_solved qM_wrong M_thrown M_pattern M_craft M_begins M_firsts M_seconds (.ref qM_mixer) M_data M_waiting M_master M_counts M_line M_length M_sent M_state M_places M_least (.ref qM_row) M_rowSize M_differ (.int M_blocks) (.ref qM_marks) (.ref qM_wrongs) (.ref qM_rights) (.ref qM_tells) (.int M_lastMaster) (.ref qM_lastCounts) M_depth M_fill M_half g25 M_elements g26 M_powers g27 M_logarithms M_forms g28 g29 g30) (wr := [(qM_marks, .inl (cI, 16, .inl M_marks)), (qM_row, .inl (cI, 3600, .inl M_row)), (qM_wrongs, .inl (cI, 16, .inl M_wrongs)), (qM_tells, .inl (cI, 96, .inl M_tells)), (qM_lastCounts, .inl (cI, 8, .inl M_lastCounts)), (qM_rights, .inl (cI, 128, .inl M_rights)), (qM_mixer, .inl (cI, 250, .inl M_mixer))]) (As := [.int x2, .int x5]) (rest := []) (c_Mo_mend l D cI cJ tt qM qM_bytes qM_elements qM_word qM_powers qM_values qM_logarithms qM_forms qM_system qM_solved qM_wrong M_thrown M_pattern M_craft M_begins M_firsts M_seconds (.ref qM_mixer) M_data M_waiting M_master M_counts M_line M_length M_sent M_state M_places M_least (.ref qM_row) M_rowSize M_differ (.int M_blocks) (.ref qM_marks) (.ref qM_wrongs) (.ref qM_rights) (.ref qM_tells) (.int M_lastMaster) (.ref qM_lastCounts) _ M_depth M_fill M_half M_bytes M_elements M_word M_powers M_values M_logarithms M_forms M_system M_solved M_wrong x2 x5 r24 g25 g26 g27 g28 g29 g30 hu) F ok_Mo_mend rfl k_1151 hK hE hP hD hS hA [0, 5, 7, 8, 9, 10, 11, 12, 13, 14, 15] [1, 2, 3, 4, 6, 16, 17] rfl rfl (by decide) (by decide) (by decide) 0 rfl rfl rfl ⟨rfl, rfl, Nat.le_of_ble_eq_true rfl, Nat.le_of_ble_eq_true rfl⟩ ⟨Nat.zero_le _, Nat.zero_le _⟩ rfl hl.1 rfl (Nat.le_of_ble_eq_true rfl) d_Mo_take_133 (fun H locs hP hD hS => ?_)
        have hP : va_P D classes (w_Mo_take cI cJ qM qM_marks qM_row qM_wrongs qM_tells qM_bytes qM_lastCounts qM_elements qM_word qM_powers qM_values qM_logarithms qM_forms qM_system qM_solved qM_wrong qM_rights qM_mixer M_thrown M_pattern M_craft M_begins M_firsts M_seconds M_data M_waiting M_master M_counts M_line M_length M_sent M_state M_places M_least M_rowSize M_differ M_depth M_fill M_half M_blocks M_lastMaster M_marks M_row M_wrongs M_tells g25 M_lastCounts M_elements g26 M_powers g27 M_logarithms M_forms g28 g29 g30 M_rights M_mixer) H := hP.sub [7, 0, 1, 2, 3, 8, 4, 9, 10, 11, 12, 13, 14, 15, 16, 17, 5, 6] rfl
        have hD : va_D A (w_Mo_take cI cJ qM qM_marks qM_row qM_wrongs qM_tells qM_bytes qM_lastCounts qM_elements qM_word qM_powers qM_values qM_logarithms qM_forms qM_system qM_solved qM_wrong qM_rights qM_mixer M_thrown M_pattern M_craft M_begins M_firsts M_seconds M_data M_waiting M_master M_counts M_line M_length M_sent M_state M_places M_least M_rowSize M_differ M_depth M_fill M_half M_blocks M_lastMaster M_marks M_row M_wrongs M_tells g25 M_lastCounts M_elements g26 M_powers g27 M_logarithms M_forms g28 g29 g30 M_rights M_mixer) := hD.sub [7, 0, 1, 2, 3, 8, 4, 9, 10, 11, 12, 13, 14, 15, 16, 17, 5, 6] (by decide) rfl
        refine lv_istore (lv' := [(6, .int r24), (0, .ref qM), (2, .int x2), (3, .int x3), (4, .int x4), (5, .int x5)]) hx hb d_Mo_take_136 hl (by decide) rfl (fun ls hl => ?_)
        refine lv_aload_n hx hb d_Mo_take_138 rfl (lv_at hl 1 rfl) ?_
        refine va_get (D := D) (ci := 11) (v := .ref qM_rights) (C := "DeepChannelModel") (T := fT_Mo) (N := 40) hx hb hts u_Mo hown hK hP 0 rfl rfl 31 (by decide) (hts _ k_917) (fun _ h9 => h9) rfl d_Mo_take_139 ?_
        refine lv_bipush (v := (8 : Int32)) hx hb d_Mo_take_142 (by decide) ?_
        refine lv_aload_n hx hb d_Mo_take_144 rfl (lv_at hl 1 rfl) ?_
        refine va_get (D := D) (ci := 11) (v := .int M_blocks) (C := "DeepChannelModel") (T := fT_Mo) (N := 40) hx hb hts u_Mo hown hK hP 0 rfl rfl 27 (by decide) (hts _ k_913) (fun _ h9 => h9) rfl d_Mo_take_145 ?_
        refine lv_imul hx hb d_Mo_take_148 ?_
        refine lv_iload hx hb d_Mo_take_149 (lv_at hl 5 rfl) ?_
        refine lv_iadd hx hb d_Mo_take_151 ?_
        refine lv_iload hx hb d_Mo_take_152 (lv_at hl 0 rfl) ?_
        refine z_iast hm hx hb hK hP hD hS 16 rfl d_Mo_take_154 (fun g32 hm H locs hP hD hS => ?_)
        have hP : va_P D classes (w_Mo_take cI cJ qM qM_marks qM_row qM_wrongs qM_tells qM_bytes qM_lastCounts qM_elements qM_word qM_powers qM_values qM_logarithms qM_forms qM_system qM_solved qM_wrong qM_rights qM_mixer M_thrown M_pattern M_craft M_begins M_firsts M_seconds M_data M_waiting M_master M_counts M_line M_length M_sent M_state M_places M_least M_rowSize M_differ M_depth M_fill M_half M_blocks M_lastMaster M_marks M_row M_wrongs M_tells g25 M_lastCounts M_elements g26 M_powers g27 M_logarithms M_forms g28 g29 g30 g32 M_mixer) H := hP
        have hD : va_D A (w_Mo_take cI cJ qM qM_marks qM_row qM_wrongs qM_tells qM_bytes qM_lastCounts qM_elements qM_word qM_powers qM_values qM_logarithms qM_forms qM_system qM_solved qM_wrong qM_rights qM_mixer M_thrown M_pattern M_craft M_begins M_firsts M_seconds M_data M_waiting M_master M_counts M_line M_length M_sent M_state M_places M_least M_rowSize M_differ M_depth M_fill M_half M_blocks M_lastMaster M_marks M_row M_wrongs M_tells g25 M_lastCounts M_elements g26 M_powers g27 M_logarithms M_forms g28 g29 g30 g32 M_mixer) := hD
        refine lv_iload_n hx hb d_Mo_take_155 rfl (lv_at hl 3 rfl) ?_
        refine lv_iload hx hb d_Mo_take_156 (lv_at hl 0 rfl) ?_
        refine z_if hm (lv_if_ge (tgt := 165) hx hb d_Mo_take_158 (by decide)) (fun hm => ?_) (fun hm => ?_)
        · refine lv_iconst (v := (0 : Int32)) hx hb d_Mo_take_165 (by decide) ?_
          exact T166 x2 x4 x5 r24 x3 (0 : Int32) M_blocks M_lastMaster M_marks M_wrongs M_tells g25 M_lastCounts g26 g27 g28 g29 g30 g32 hm _ _ hP hD hS _ (lv_sub hl [1, 2, 4, 5, 0] rfl)
        · refine lv_iconst (v := (1 : Int32)) hx hb d_Mo_take_161 (by decide) ?_
          refine lv_goto (tgt := 166) hx hb d_Mo_take_162 (by decide) ?_
          exact T166 x2 x4 x5 r24 x3 (1 : Int32) M_blocks M_lastMaster M_marks M_wrongs M_tells g25 M_lastCounts g26 g27 g28 g29 g30 g32 hm _ _ hP hD hS _ (lv_sub hl [1, 2, 4, 5, 0] rfl)
  have T112 : ∀ (x2 : Int32) (M_blocks : Int32) (M_lastMaster : Int32) (M_marks : Nat → Int32) (M_wrongs : Nat → Int32) (M_tells : Nat → Int32) (M_bytes : Nat → Int32) (M_lastCounts : Nat → Int32) (M_word : Nat → Int32) (M_values : Nat → Int32) (M_system : Nat → Int32) (M_solved : Nat → Int32) (M_wrong : Nat → Int32) (M_rights : Nat → Int32), f_Mo_take_112 M_depth M_fill M_half M_elements M_powers M_logarithms M_forms x2 M_blocks M_lastMaster M_marks M_wrongs M_tells M_bytes M_lastCounts M_word M_values M_system M_solved M_wrong M_rights = some (M_blocks', M_lastMaster', M_marks', M_wrongs', M_tells', M_bytes', M_lastCounts', M_word', M_values', M_system', M_solved', M_wrong', M_rights') → ∀ (H : Heap) (locs : List Loc), va_P D classes (w_Mo_take cI cJ qM qM_marks qM_row qM_wrongs qM_tells qM_bytes qM_lastCounts qM_elements qM_word qM_powers qM_values qM_logarithms qM_forms qM_system qM_solved qM_wrong qM_rights qM_mixer M_thrown M_pattern M_craft M_begins M_firsts M_seconds M_data M_waiting M_master M_counts M_line M_length M_sent M_state M_places M_least M_rowSize M_differ M_depth M_fill M_half M_blocks M_lastMaster M_marks M_row M_wrongs M_tells M_bytes M_lastCounts M_elements M_word M_powers M_values M_logarithms M_forms M_system M_solved M_wrong M_rights M_mixer) H → va_D A (w_Mo_take cI cJ qM qM_marks qM_row qM_wrongs qM_tells qM_bytes qM_lastCounts qM_elements qM_word qM_powers qM_values qM_logarithms qM_forms qM_system qM_solved qM_wrong qM_rights qM_mixer M_thrown M_pattern M_craft M_begins M_firsts M_seconds M_data M_waiting M_master M_counts M_line M_length M_sent M_state M_places M_least M_rowSize M_differ M_depth M_fill M_half M_blocks M_lastMaster M_marks M_row M_wrongs M_tells M_bytes M_lastCounts M_elements M_word M_powers M_values M_logarithms M_forms M_system M_solved M_wrong M_rights M_mixer) → va_S A s.heap H locs → ∀ (ls : Array Slot), lv_has ls 7 [(0, .ref qM), (2, .int x2)] → W p l e (RM 4 100) s m args below meth c H locs 0 0 Q0 (F0 m 112 ls []) := by
    intro x2 M_blocks M_lastMaster M_marks M_wrongs M_tells M_bytes M_lastCounts M_word M_values M_system M_solved M_wrong M_rights hm H locs hP hD hS ls hl
    unfold f_Mo_take_112 at hm
    refine lv_iconst (v := (0 : Int32)) hx hb d_Mo_take_112 (by decide) ?_
    refine lv_istore_n (lv' := [(3, .int (0 : Int32)), (0, .ref qM), (2, .int x2)]) hx hb d_Mo_take_113 rfl hl (by decide) rfl (fun ls hl => ?_)
    refine lv_iconst (v := (0 : Int32)) hx hb d_Mo_take_114 (by decide) ?_
    refine lv_istore (lv' := [(4, .int (0 : Int32)), (3, .int (0 : Int32)), (0, .ref qM), (2, .int x2)]) hx hb d_Mo_take_115 hl (by decide) rfl (fun ls hl => ?_)
    refine lv_iconst (v := (0 : Int32)) hx hb d_Mo_take_117 (by decide) ?_
    refine lv_istore (lv' := [(5, .int (0 : Int32)), (4, .int (0 : Int32)), (3, .int (0 : Int32)), (0, .ref qM), (2, .int x2)]) hx hb d_Mo_take_118 hl (by decide) rfl (fun ls hl => ?_)
    exact T120 10000 x2 (0 : Int32) (0 : Int32) (0 : Int32) M_blocks M_lastMaster M_marks M_wrongs M_tells M_bytes M_lastCounts M_word M_values M_system M_solved M_wrong M_rights hm _ _ hP hD hS _ (lv_sub hl [3, 4, 2, 1, 0] rfl)
  have T38 : ∀ (n38 : Nat) (x1 : Int32) (x2 : Int32) (x3 : Int32) (M_blocks : Int32) (M_lastMaster : Int32) (M_marks : Nat → Int32) (M_wrongs : Nat → Int32) (M_tells : Nat → Int32) (M_bytes : Nat → Int32) (M_lastCounts : Nat → Int32) (M_word : Nat → Int32) (M_values : Nat → Int32) (M_system : Nat → Int32) (M_solved : Nat → Int32) (M_wrong : Nat → Int32) (M_rights : Nat → Int32), f_Mo_take_38 M_depth M_fill M_half M_row M_elements M_powers M_logarithms M_forms M_mixer n38 x1 x2 x3 M_blocks M_lastMaster M_marks M_wrongs M_tells M_bytes M_lastCounts M_word M_values M_system M_solved M_wrong M_rights = some (M_blocks', M_lastMaster', M_marks', M_wrongs', M_tells', M_bytes', M_lastCounts', M_word', M_values', M_system', M_solved', M_wrong', M_rights') → ∀ (H : Heap) (locs : List Loc), va_P D classes (w_Mo_take cI cJ qM qM_marks qM_row qM_wrongs qM_tells qM_bytes qM_lastCounts qM_elements qM_word qM_powers qM_values qM_logarithms qM_forms qM_system qM_solved qM_wrong qM_rights qM_mixer M_thrown M_pattern M_craft M_begins M_firsts M_seconds M_data M_waiting M_master M_counts M_line M_length M_sent M_state M_places M_least M_rowSize M_differ M_depth M_fill M_half M_blocks M_lastMaster M_marks M_row M_wrongs M_tells M_bytes M_lastCounts M_elements M_word M_powers M_values M_logarithms M_forms M_system M_solved M_wrong M_rights M_mixer) H → va_D A (w_Mo_take cI cJ qM qM_marks qM_row qM_wrongs qM_tells qM_bytes qM_lastCounts qM_elements qM_word qM_powers qM_values qM_logarithms qM_forms qM_system qM_solved qM_wrong qM_rights qM_mixer M_thrown M_pattern M_craft M_begins M_firsts M_seconds M_data M_waiting M_master M_counts M_line M_length M_sent M_state M_places M_least M_rowSize M_differ M_depth M_fill M_half M_blocks M_lastMaster M_marks M_row M_wrongs M_tells M_bytes M_lastCounts M_elements M_word M_powers M_values M_logarithms M_forms M_system M_solved M_wrong M_rights M_mixer) → va_S A s.heap H locs → ∀ (ls : Array Slot), lv_has ls 7 [(0, .ref qM), (1, .int x1), (2, .int x2), (3, .int x3)] → W p l e (RM 4 100) s m args below meth c H locs 0 0 Q0 (F0 m 38 ls []) := by
    intro n38
    induction n38 with
    | zero => intro x1 x2 x3 M_blocks M_lastMaster M_marks M_wrongs M_tells M_bytes M_lastCounts M_word M_values M_system M_solved M_wrong M_rights hm; cases hm
    | succ n38 ih38 =>
      have T89 : ∀ (x1 : Int32) (x2 : Int32) (x3 : Int32) (x4 : Int32) (M_blocks : Int32) (M_lastMaster : Int32) (M_marks : Nat → Int32) (M_wrongs : Nat → Int32) (M_tells : Nat → Int32) (M_bytes : Nat → Int32) (M_lastCounts : Nat → Int32) (M_word : Nat → Int32) (M_values : Nat → Int32) (M_system : Nat → Int32) (M_solved : Nat → Int32) (M_wrong : Nat → Int32) (M_rights : Nat → Int32), f_Mo_take_89 M_mixer (f_Mo_take_38 M_depth M_fill M_half M_row M_elements M_powers M_logarithms M_forms M_mixer n38) x1 x2 x3 x4 M_blocks M_lastMaster M_marks M_wrongs M_tells M_bytes M_lastCounts M_word M_values M_system M_solved M_wrong M_rights = some (M_blocks', M_lastMaster', M_marks', M_wrongs', M_tells', M_bytes', M_lastCounts', M_word', M_values', M_system', M_solved', M_wrong', M_rights') → ∀ (H : Heap) (locs : List Loc), va_P D classes (w_Mo_take cI cJ qM qM_marks qM_row qM_wrongs qM_tells qM_bytes qM_lastCounts qM_elements qM_word qM_powers qM_values qM_logarithms qM_forms qM_system qM_solved qM_wrong qM_rights qM_mixer M_thrown M_pattern M_craft M_begins M_firsts M_seconds M_data M_waiting M_master M_counts M_line M_length M_sent M_state M_places M_least M_rowSize M_differ M_depth M_fill M_half M_blocks M_lastMaster M_marks M_row M_wrongs M_tells M_bytes M_lastCounts M_elements M_word M_powers M_values M_logarithms M_forms M_system M_solved M_wrong M_rights M_mixer) H → va_D A (w_Mo_take cI cJ qM qM_marks qM_row qM_wrongs qM_tells qM_bytes qM_lastCounts qM_elements qM_word qM_powers qM_values qM_logarithms qM_forms qM_system qM_solved qM_wrong qM_rights qM_mixer M_thrown M_pattern M_craft M_begins M_firsts M_seconds M_data M_waiting M_master M_counts M_line M_length M_sent M_state M_places M_least M_rowSize M_differ M_depth M_fill M_half M_blocks M_lastMaster M_marks M_row M_wrongs M_tells M_bytes M_lastCounts M_elements M_word M_powers M_values M_logarithms M_forms M_system M_solved M_wrong M_rights M_mixer) → va_S A s.heap H locs → ∀ (ls : Array Slot), lv_has ls 7 [(0, .ref qM), (1, .int x1), (2, .int x2), (3, .int x3), (4, .int x4)] → W p l e (RM 4 100) s m args below meth c H locs 0 0 Q0 (F0 m 89 ls []) := by
        intro x1 x2 x3 x4 M_blocks M_lastMaster M_marks M_wrongs M_tells M_bytes M_lastCounts M_word M_values M_system M_solved M_wrong M_rights hm H locs hP hD hS ls hl
        unfold f_Mo_take_89 at hm
        refine lv_aload_n hx hb d_Mo_take_89 rfl (lv_at hl 0 rfl) ?_
        refine va_get (D := D) (ci := 11) (v := .ref qM_bytes) (C := "DeepChannelModel") (T := fT_Mo) (N := 40) hx hb hts u_Mo hown hK hP 0 rfl rfl 30 (by decide) (hts _ k_916) (fun _ h9 => h9) rfl d_Mo_take_90 ?_
        refine lv_iload_n hx hb d_Mo_take_93 rfl (lv_at hl 2 rfl) ?_
        refine lv_iload_n hx hb d_Mo_take_94 rfl (lv_at hl 3 rfl) ?_
        refine lv_iadd hx hb d_Mo_take_95 ?_
        refine lv_iload hx hb d_Mo_take_96 (lv_at hl 4 rfl) ?_
        refine lv_aload_n hx hb d_Mo_take_98 rfl (lv_at hl 0 rfl) ?_
        refine va_get (D := D) (ci := 11) (v := .ref qM_mixer) (C := "DeepChannelModel") (T := fT_Mo) (N := 40) hx hb hts u_Mo hown hK hP 0 rfl rfl 13 (by decide) (hts _ k_899) (fun _ h9 => h9) rfl d_Mo_take_99 ?_
        refine lv_iload_n hx hb d_Mo_take_102 rfl (lv_at hl 3 rfl) ?_
        refine z_iald hm hx hb hK hP 17 rfl d_Mo_take_103 (fun v33 hm => ?_)
        refine lv_ixor hx hb d_Mo_take_104 ?_
        refine z_iast hm hx hb hK hP hD hS 5 rfl d_Mo_take_105 (fun g34 hm H locs hP hD hS => ?_)
        have hP : va_P D classes (w_Mo_take cI cJ qM qM_marks qM_row qM_wrongs qM_tells qM_bytes qM_lastCounts qM_elements qM_word qM_powers qM_values qM_logarithms qM_forms qM_system qM_solved qM_wrong qM_rights qM_mixer M_thrown M_pattern M_craft M_begins M_firsts M_seconds M_data M_waiting M_master M_counts M_line M_length M_sent M_state M_places M_least M_rowSize M_differ M_depth M_fill M_half M_blocks M_lastMaster M_marks M_row M_wrongs M_tells g34 M_lastCounts M_elements M_word M_powers M_values M_logarithms M_forms M_system M_solved M_wrong M_rights M_mixer) H := hP
        have hD : va_D A (w_Mo_take cI cJ qM qM_marks qM_row qM_wrongs qM_tells qM_bytes qM_lastCounts qM_elements qM_word qM_powers qM_values qM_logarithms qM_forms qM_system qM_solved qM_wrong qM_rights qM_mixer M_thrown M_pattern M_craft M_begins M_firsts M_seconds M_data M_waiting M_master M_counts M_line M_length M_sent M_state M_places M_least M_rowSize M_differ M_depth M_fill M_half M_blocks M_lastMaster M_marks M_row M_wrongs M_tells g34 M_lastCounts M_elements M_word M_powers M_values M_logarithms M_forms M_system M_solved M_wrong M_rights M_mixer) := hD
        obtain ⟨v35, ev, hm⟩ := nm_el hm
        refine lv_iinc (v := v35) (lv' := [(3, .int v35), (0, .ref qM), (1, .int x1), (2, .int x2), (4, .int x4)]) hx hb d_Mo_take_106 hl (k := 3) rfl (by rw [ev]; rfl) (by decide) rfl (fun ls hl => ?_)
        refine lv_goto (tgt := 38) hx hb d_Mo_take_109 (by decide) ?_
        exact ih38 x1 x2 v35 M_blocks M_lastMaster M_marks M_wrongs M_tells g34 M_lastCounts M_word M_values M_system M_solved M_wrong M_rights hm _ _ hP hD hS _ (lv_sub hl [1, 2, 3, 0] rfl)
      have T52 : ∀ (n52 : Nat) (x1 : Int32) (x2 : Int32) (x3 : Int32) (x4 : Int32) (x5 : Int32) (M_blocks : Int32) (M_lastMaster : Int32) (M_marks : Nat → Int32) (M_wrongs : Nat → Int32) (M_tells : Nat → Int32) (M_bytes : Nat → Int32) (M_lastCounts : Nat → Int32) (M_word : Nat → Int32) (M_values : Nat → Int32) (M_system : Nat → Int32) (M_solved : Nat → Int32) (M_wrong : Nat → Int32) (M_rights : Nat → Int32), f_Mo_take_52 M_row M_mixer (f_Mo_take_38 M_depth M_fill M_half M_row M_elements M_powers M_logarithms M_forms M_mixer n38) n52 x1 x2 x3 x4 x5 M_blocks M_lastMaster M_marks M_wrongs M_tells M_bytes M_lastCounts M_word M_values M_system M_solved M_wrong M_rights = some (M_blocks', M_lastMaster', M_marks', M_wrongs', M_tells', M_bytes', M_lastCounts', M_word', M_values', M_system', M_solved', M_wrong', M_rights') → ∀ (H : Heap) (locs : List Loc), va_P D classes (w_Mo_take cI cJ qM qM_marks qM_row qM_wrongs qM_tells qM_bytes qM_lastCounts qM_elements qM_word qM_powers qM_values qM_logarithms qM_forms qM_system qM_solved qM_wrong qM_rights qM_mixer M_thrown M_pattern M_craft M_begins M_firsts M_seconds M_data M_waiting M_master M_counts M_line M_length M_sent M_state M_places M_least M_rowSize M_differ M_depth M_fill M_half M_blocks M_lastMaster M_marks M_row M_wrongs M_tells M_bytes M_lastCounts M_elements M_word M_powers M_values M_logarithms M_forms M_system M_solved M_wrong M_rights M_mixer) H → va_D A (w_Mo_take cI cJ qM qM_marks qM_row qM_wrongs qM_tells qM_bytes qM_lastCounts qM_elements qM_word qM_powers qM_values qM_logarithms qM_forms qM_system qM_solved qM_wrong qM_rights qM_mixer M_thrown M_pattern M_craft M_begins M_firsts M_seconds M_data M_waiting M_master M_counts M_line M_length M_sent M_state M_places M_least M_rowSize M_differ M_depth M_fill M_half M_blocks M_lastMaster M_marks M_row M_wrongs M_tells M_bytes M_lastCounts M_elements M_word M_powers M_values M_logarithms M_forms M_system M_solved M_wrong M_rights M_mixer) → va_S A s.heap H locs → ∀ (ls : Array Slot), lv_has ls 7 [(0, .ref qM), (1, .int x1), (2, .int x2), (3, .int x3), (4, .int x4), (5, .int x5)] → W p l e (RM 4 100) s m args below meth c H locs 0 0 Q0 (F0 m 52 ls []) := by
        intro n52
        induction n52 with
        | zero => intro x1 x2 x3 x4 x5 M_blocks M_lastMaster M_marks M_wrongs M_tells M_bytes M_lastCounts M_word M_values M_system M_solved M_wrong M_rights hm; cases hm
        | succ n52 ih52 =>
          intro x1 x2 x3 x4 x5 M_blocks M_lastMaster M_marks M_wrongs M_tells M_bytes M_lastCounts M_word M_values M_system M_solved M_wrong M_rights hm H locs hP hD hS ls hl
          replace hm : f_Mo_take_52_b M_row M_mixer (f_Mo_take_38 M_depth M_fill M_half M_row M_elements M_powers M_logarithms M_forms M_mixer n38) (f_Mo_take_52 M_row M_mixer (f_Mo_take_38 M_depth M_fill M_half M_row M_elements M_powers M_logarithms M_forms M_mixer n38) n52) x1 x2 x3 x4 x5 M_blocks M_lastMaster M_marks M_wrongs M_tells M_bytes M_lastCounts M_word M_values M_system M_solved M_wrong M_rights = some (M_blocks', M_lastMaster', M_marks', M_wrongs', M_tells', M_bytes', M_lastCounts', M_word', M_values', M_system', M_solved', M_wrong', M_rights') := hm
          unfold f_Mo_take_52_b at hm
          refine lv_iload hx hb d_Mo_take_52 (lv_at hl 5 rfl) ?_
          refine lv_bipush (v := (8 : Int32)) hx hb d_Mo_take_54 (by decide) ?_
          refine z_if hm (lv_icmp_ge (tgt := 89) hx hb d_Mo_take_56 (by decide)) (fun hm => ?_) (fun hm => ?_)
          · exact T89 x1 x2 x3 x4 M_blocks M_lastMaster M_marks M_wrongs M_tells M_bytes M_lastCounts M_word M_values M_system M_solved M_wrong M_rights hm _ _ hP hD hS _ (lv_sub hl [0, 1, 2, 3, 4] rfl)
          · refine lv_iconst (v := (2 : Int32)) hx hb d_Mo_take_59 (by decide) ?_
            refine lv_iload hx hb d_Mo_take_60 (lv_at hl 4 rfl) ?_
            refine lv_imul hx hb d_Mo_take_62 ?_
            refine lv_aload_n hx hb d_Mo_take_63 rfl (lv_at hl 0 rfl) ?_
            refine va_get (D := D) (ci := 11) (v := .ref qM_row) (C := "DeepChannelModel") (T := fT_Mo) (N := 40) hx hb hts u_Mo hown hK hP 0 rfl rfl 24 (by decide) (hts _ k_910) (fun _ h9 => h9) rfl d_Mo_take_64 ?_
            refine lv_iload_n hx hb d_Mo_take_67 rfl (lv_at hl 1 rfl) ?_
            refine lv_bipush (v := (32 : Int32)) hx hb d_Mo_take_68 (by decide) ?_
            refine lv_iadd hx hb d_Mo_take_70 ?_
            refine lv_bipush (v := (8 : Int32)) hx hb d_Mo_take_71 (by decide) ?_
            refine lv_iload_n hx hb d_Mo_take_73 rfl (lv_at hl 3 rfl) ?_
            refine lv_imul hx hb d_Mo_take_74 ?_
            refine lv_iadd hx hb d_Mo_take_75 ?_
            refine lv_iload hx hb d_Mo_take_76 (lv_at hl 5 rfl) ?_
            refine lv_iadd hx hb d_Mo_take_78 ?_
            refine z_iald hm hx hb hK hP 2 rfl d_Mo_take_79 (fun v36 hm => ?_)
            refine lv_iadd hx hb d_Mo_take_80 ?_
            refine z_nmi hm (fun v37 hm => ?_)
            refine lv_istore (lv' := [(4, .int v37), (0, .ref qM), (1, .int x1), (2, .int x2), (3, .int x3), (5, .int x5)]) hx hb d_Mo_take_81 hl (by decide) rfl (fun ls hl => ?_)
            obtain ⟨v38, ev, hm⟩ := nm_el hm
            refine lv_iinc (v := v38) (lv' := [(5, .int v38), (4, .int v37), (0, .ref qM), (1, .int x1), (2, .int x2), (3, .int x3)]) hx hb d_Mo_take_83 hl (k := 5) rfl (by rw [ev]; rfl) (by decide) rfl (fun ls hl => ?_)
            refine lv_goto (tgt := 52) hx hb d_Mo_take_86 (by decide) ?_
            exact ih52 x1 x2 x3 v37 v38 M_blocks M_lastMaster M_marks M_wrongs M_tells M_bytes M_lastCounts M_word M_values M_system M_solved M_wrong M_rights hm _ _ hP hD hS _ (lv_sub hl [2, 3, 4, 5, 1, 0] rfl)
      intro x1 x2 x3 M_blocks M_lastMaster M_marks M_wrongs M_tells M_bytes M_lastCounts M_word M_values M_system M_solved M_wrong M_rights hm H locs hP hD hS ls hl
      replace hm : f_Mo_take_38_b M_depth M_fill M_half M_row M_elements M_powers M_logarithms M_forms M_mixer (f_Mo_take_38 M_depth M_fill M_half M_row M_elements M_powers M_logarithms M_forms M_mixer n38) x1 x2 x3 M_blocks M_lastMaster M_marks M_wrongs M_tells M_bytes M_lastCounts M_word M_values M_system M_solved M_wrong M_rights = some (M_blocks', M_lastMaster', M_marks', M_wrongs', M_tells', M_bytes', M_lastCounts', M_word', M_values', M_system', M_solved', M_wrong', M_rights') := hm
      unfold f_Mo_take_38_b at hm
      refine lv_iload_n hx hb d_Mo_take_38 rfl (lv_at hl 3 rfl) ?_
      refine lv_aload_n hx hb d_Mo_take_39 rfl (lv_at hl 0 rfl) ?_
      obtain ⟨r39, hu, hm⟩ := bd_el hm
      replace hm := nm_1 hm
      refine z_cVi (wc := w_Mo_blockSize cI cJ qM M_thrown (.int M_half) M_pattern M_craft M_begins M_firsts M_seconds (.ref qM_powers) (.ref qM_logarithms) (.ref qM_forms) (.ref qM_elements) (.ref qM_mixer) M_data M_waiting M_master M_counts M_line M_length M_sent M_state M_places M_least (.ref qM_row) M_rowSize M_differ (.int M_blocks) (.ref qM_marks) (.ref qM_wrongs) (.ref qM_bytes) (.ref qM_rights) (.ref qM_tells) (.int M_lastMaster) (.ref qM_lastCounts) (.ref qM_word) (.ref qM_values) (.ref qM_system) (.ref qM_solved) (.ref qM_wrong) M_depth M_fill) (wc' := w_Mo_blockSize cI cJ qM M_thrown (.int M_half) M_pattern M_craft M_begins M_firsts M_seconds (.ref qM_powers) (.ref qM_logarithms) (.ref qM_forms) (.ref qM_elements) (.ref qM_mixer) M_data M_waiting M_master M_counts M_line M_length M_sent M_state M_places M_least (.ref qM_row) M_rowSize M_differ (.int M_blocks) (.ref qM_marks) (.ref qM_wrongs) (.ref qM_bytes) (.ref qM_rights) (.ref qM_tells) (.int M_lastMaster) (.ref qM_lastCounts) (.ref qM_word) (.ref qM_values) (.ref qM_system) (.ref qM_solved) (.ref qM_wrong) M_depth M_fill) (wr := [(qM_marks, .inl (cI, 16, .inl M_marks)), (qM_row, .inl (cI, 3600, .inl M_row)), (qM_wrongs, .inl (cI, 16, .inl M_wrongs)), (qM_tells, .inl (cI, 96, .inl M_tells)), (qM_bytes, .inl (cI, 4000, .inl M_bytes)), (qM_lastCounts, .inl (cI, 8, .inl M_lastCounts)), (qM_elements, .inl (cI, 256, .inl M_elements)), (qM_word, .inl (cI, 255, .inl M_word)), (qM_powers, .inl (cI, 255, .inl M_powers)), (qM_values, .inl (cI, 32, .inl M_values)), (qM_logarithms, .inl (cI, 256, .inl M_logarithms)), (qM_forms, .inl (cI, 256, .inl M_forms)), (qM_system, .inl (cI, 1056, .inl M_system)), (qM_solved, .inl (cI, 32, .inl M_solved)), (qM_wrong, .inl (cI, 16, .inl M_wrong)), (qM_rights, .inl (cI, 128, .inl M_rights)), (qM_mixer, .inl (cI, 250, .inl M_mixer))]) (As := []) (rest := [.int x3]) (c_Mo_blockSize l D cI cJ tt qM M_thrown (.int M_half) M_pattern M_craft M_begins M_firsts M_seconds (.ref qM_powers) (.ref qM_logarithms) (.ref qM_forms) (.ref qM_elements) (.ref qM_mixer) M_data M_waiting M_master M_counts M_line M_length M_sent M_state M_places M_least (.ref qM_row) M_rowSize M_differ (.int M_blocks) (.ref qM_marks) (.ref qM_wrongs) (.ref qM_bytes) (.ref qM_rights) (.ref qM_tells) (.int M_lastMaster) (.ref qM_lastCounts) (.ref qM_word) (.ref qM_values) (.ref qM_system) (.ref qM_solved) (.ref qM_wrong) _ M_depth M_fill r39 hu) F ok_Mo_blockSize rfl k_1034 hK hE hP hD hS hA [0] [1, 2, 3, 4, 5, 6, 7, 8, 9, 10, 11, 12, 13, 14, 15, 16, 17] rfl rfl (by decide) (by decide) (by decide) 0 rfl rfl rfl ⟨rfl, rfl, Nat.le_of_ble_eq_true rfl, Nat.le_of_ble_eq_true rfl⟩ ⟨Nat.zero_le _, Nat.zero_le _⟩ rfl hl.1 rfl (Nat.le_of_ble_eq_true rfl) d_Mo_take_40 (fun H locs hP hD hS => ?_)
      have hP : va_P D classes (w_Mo_take cI cJ qM qM_marks qM_row qM_wrongs qM_tells qM_bytes qM_lastCounts qM_elements qM_word qM_powers qM_values qM_logarithms qM_forms qM_system qM_solved qM_wrong qM_rights qM_mixer M_thrown M_pattern M_craft M_begins M_firsts M_seconds M_data M_waiting M_master M_counts M_line M_length M_sent M_state M_places M_least M_rowSize M_differ M_depth M_fill M_half M_blocks M_lastMaster M_marks M_row M_wrongs M_tells M_bytes M_lastCounts M_elements M_word M_powers M_values M_logarithms M_forms M_system M_solved M_wrong M_rights M_mixer) H := hP.sub [17, 0, 1, 2, 3, 4, 5, 6, 7, 8, 9, 10, 11, 12, 13, 14, 15, 16] rfl
      have hD : va_D A (w_Mo_take cI cJ qM qM_marks qM_row qM_wrongs qM_tells qM_bytes qM_lastCounts qM_elements qM_word qM_powers qM_values qM_logarithms qM_forms qM_system qM_solved qM_wrong qM_rights qM_mixer M_thrown M_pattern M_craft M_begins M_firsts M_seconds M_data M_waiting M_master M_counts M_line M_length M_sent M_state M_places M_least M_rowSize M_differ M_depth M_fill M_half M_blocks M_lastMaster M_marks M_row M_wrongs M_tells M_bytes M_lastCounts M_elements M_word M_powers M_values M_logarithms M_forms M_system M_solved M_wrong M_rights M_mixer) := hD.sub [17, 0, 1, 2, 3, 4, 5, 6, 7, 8, 9, 10, 11, 12, 13, 14, 15, 16] (by decide) rfl
      refine z_if hm (lv_icmp_ge (tgt := 112) hx hb d_Mo_take_43 (by decide)) (fun hm => ?_) (fun hm => ?_)
      · exact T112 x2 M_blocks M_lastMaster M_marks M_wrongs M_tells M_bytes M_lastCounts M_word M_values M_system M_solved M_wrong M_rights hm _ _ hP hD hS _ (lv_sub hl [0, 2] rfl)
      · refine lv_iconst (v := (0 : Int32)) hx hb d_Mo_take_46 (by decide) ?_
        refine lv_istore (lv' := [(4, .int (0 : Int32)), (0, .ref qM), (1, .int x1), (2, .int x2), (3, .int x3)]) hx hb d_Mo_take_47 hl (by decide) rfl (fun ls hl => ?_)
        refine lv_iconst (v := (0 : Int32)) hx hb d_Mo_take_49 (by decide) ?_
        refine lv_istore (lv' := [(5, .int (0 : Int32)), (4, .int (0 : Int32)), (0, .ref qM), (1, .int x1), (2, .int x2), (3, .int x3)]) hx hb d_Mo_take_50 hl (by decide) rfl (fun ls hl => ?_)
        exact T52 10000 x1 x2 x3 (0 : Int32) (0 : Int32) M_blocks M_lastMaster M_marks M_wrongs M_tells M_bytes M_lastCounts M_word M_values M_system M_solved M_wrong M_rights hm _ _ hP hD hS _ (lv_sub hl [2, 3, 4, 5, 1, 0] rfl)
  unfold f_Mo_take at hm
  refine lv_sipush (v := (250 : Int32)) hx hb d_Mo_take_0 (by decide) ?_
  refine lv_aload_n hx hb d_Mo_take_3 rfl (lv_at hl 0 rfl) ?_
  refine va_get (D := D) (ci := 11) (v := .int M_blocks) (C := "DeepChannelModel") (T := fT_Mo) (N := 40) hx hb hts u_Mo hown hK hP 0 rfl rfl 27 (by decide) (hts _ k_913) (fun _ h9 => h9) rfl d_Mo_take_4 ?_
  refine lv_imul hx hb d_Mo_take_7 ?_
  refine z_nmi hm (fun v41 hm => ?_)
  refine lv_istore_n (lv' := [(2, .int v41), (0, .ref qM), (1, .int x1)]) hx hb d_Mo_take_8 rfl hl (by decide) rfl (fun ls hl => ?_)
  refine lv_aload_n hx hb d_Mo_take_9 rfl (lv_at hl 1 rfl) ?_
  refine va_get (D := D) (ci := 11) (v := .ref qM_marks) (C := "DeepChannelModel") (T := fT_Mo) (N := 40) hx hb hts u_Mo hown hK hP 0 rfl rfl 28 (by decide) (hts _ k_914) (fun _ h9 => h9) rfl d_Mo_take_10 ?_
  refine lv_aload_n hx hb d_Mo_take_13 rfl (lv_at hl 1 rfl) ?_
  refine va_get (D := D) (ci := 11) (v := .int M_blocks) (C := "DeepChannelModel") (T := fT_Mo) (N := 40) hx hb hts u_Mo hown hK hP 0 rfl rfl 27 (by decide) (hts _ k_913) (fun _ h9 => h9) rfl d_Mo_take_14 ?_
  refine lv_iload_n hx hb d_Mo_take_17 rfl (lv_at hl 2 rfl) ?_
  refine lv_bipush (v := (32 : Int32)) hx hb d_Mo_take_18 (by decide) ?_
  refine lv_iadd hx hb d_Mo_take_20 ?_
  refine z_iast hm hx hb hK hP hD hS 1 rfl d_Mo_take_21 (fun g42 hm H locs hP hD hS => ?_)
  have hP : va_P D classes (w_Mo_take cI cJ qM qM_marks qM_row qM_wrongs qM_tells qM_bytes qM_lastCounts qM_elements qM_word qM_powers qM_values qM_logarithms qM_forms qM_system qM_solved qM_wrong qM_rights qM_mixer M_thrown M_pattern M_craft M_begins M_firsts M_seconds M_data M_waiting M_master M_counts M_line M_length M_sent M_state M_places M_least M_rowSize M_differ M_depth M_fill M_half M_blocks M_lastMaster g42 M_row M_wrongs M_tells M_bytes M_lastCounts M_elements M_word M_powers M_values M_logarithms M_forms M_system M_solved M_wrong M_rights M_mixer) H := hP
  have hD : va_D A (w_Mo_take cI cJ qM qM_marks qM_row qM_wrongs qM_tells qM_bytes qM_lastCounts qM_elements qM_word qM_powers qM_values qM_logarithms qM_forms qM_system qM_solved qM_wrong qM_rights qM_mixer M_thrown M_pattern M_craft M_begins M_firsts M_seconds M_data M_waiting M_master M_counts M_line M_length M_sent M_state M_places M_least M_rowSize M_differ M_depth M_fill M_half M_blocks M_lastMaster g42 M_row M_wrongs M_tells M_bytes M_lastCounts M_elements M_word M_powers M_values M_logarithms M_forms M_system M_solved M_wrong M_rights M_mixer) := hD
  refine lv_aload_n hx hb d_Mo_take_22 rfl (lv_at hl 1 rfl) ?_
  refine va_get (D := D) (ci := 11) (v := .ref qM_wrongs) (C := "DeepChannelModel") (T := fT_Mo) (N := 40) hx hb hts u_Mo hown hK hP 0 rfl rfl 29 (by decide) (hts _ k_915) (fun _ h9 => h9) rfl d_Mo_take_23 ?_
  refine lv_aload_n hx hb d_Mo_take_26 rfl (lv_at hl 1 rfl) ?_
  refine va_get (D := D) (ci := 11) (v := .int M_blocks) (C := "DeepChannelModel") (T := fT_Mo) (N := 40) hx hb hts u_Mo hown hK hP 0 rfl rfl 27 (by decide) (hts _ k_913) (fun _ h9 => h9) rfl d_Mo_take_27 ?_
  refine lv_aload_n hx hb d_Mo_take_30 rfl (lv_at hl 1 rfl) ?_
  refine lv_iload_n hx hb d_Mo_take_31 rfl (lv_at hl 2 rfl) ?_
  obtain ⟨r43, hu, hm⟩ := bd_el hm
  replace hm := nm_1 hm
  refine z_cVi (wc := w_Mo_markWrong cI cJ qM qM_row M_thrown (.int M_depth) (.int M_fill) (.int M_half) M_pattern M_craft M_begins M_firsts M_seconds (.ref qM_powers) (.ref qM_logarithms) (.ref qM_forms) (.ref qM_elements) (.ref qM_mixer) M_data M_waiting M_master M_counts M_line M_length M_sent M_state M_places M_least M_rowSize M_differ (.int M_blocks) (.ref qM_marks) (.ref qM_wrongs) (.ref qM_bytes) (.ref qM_rights) (.ref qM_tells) (.int M_lastMaster) (.ref qM_lastCounts) (.ref qM_word) (.ref qM_values) (.ref qM_system) (.ref qM_solved) (.ref qM_wrong) M_row) (wc' := w_Mo_markWrong cI cJ qM qM_row M_thrown (.int M_depth) (.int M_fill) (.int M_half) M_pattern M_craft M_begins M_firsts M_seconds (.ref qM_powers) (.ref qM_logarithms) (.ref qM_forms) (.ref qM_elements) (.ref qM_mixer) M_data M_waiting M_master M_counts M_line M_length M_sent M_state M_places M_least M_rowSize M_differ (.int M_blocks) (.ref qM_marks) (.ref qM_wrongs) (.ref qM_bytes) (.ref qM_rights) (.ref qM_tells) (.int M_lastMaster) (.ref qM_lastCounts) (.ref qM_word) (.ref qM_values) (.ref qM_system) (.ref qM_solved) (.ref qM_wrong) M_row) (wr := [(qM_marks, .inl (cI, 16, .inl g42)), (qM_wrongs, .inl (cI, 16, .inl M_wrongs)), (qM_tells, .inl (cI, 96, .inl M_tells)), (qM_bytes, .inl (cI, 4000, .inl M_bytes)), (qM_lastCounts, .inl (cI, 8, .inl M_lastCounts)), (qM_elements, .inl (cI, 256, .inl M_elements)), (qM_word, .inl (cI, 255, .inl M_word)), (qM_powers, .inl (cI, 255, .inl M_powers)), (qM_values, .inl (cI, 32, .inl M_values)), (qM_logarithms, .inl (cI, 256, .inl M_logarithms)), (qM_forms, .inl (cI, 256, .inl M_forms)), (qM_system, .inl (cI, 1056, .inl M_system)), (qM_solved, .inl (cI, 32, .inl M_solved)), (qM_wrong, .inl (cI, 16, .inl M_wrong)), (qM_rights, .inl (cI, 128, .inl M_rights)), (qM_mixer, .inl (cI, 250, .inl M_mixer))]) (As := [.int x1]) (rest := [.int M_blocks, .ref qM_wrongs]) (c_Mo_markWrong l D cI cJ tt qM qM_row M_thrown (.int M_depth) (.int M_fill) (.int M_half) M_pattern M_craft M_begins M_firsts M_seconds (.ref qM_powers) (.ref qM_logarithms) (.ref qM_forms) (.ref qM_elements) (.ref qM_mixer) M_data M_waiting M_master M_counts M_line M_length M_sent M_state M_places M_least M_rowSize M_differ (.int M_blocks) (.ref qM_marks) (.ref qM_wrongs) (.ref qM_bytes) (.ref qM_rights) (.ref qM_tells) (.int M_lastMaster) (.ref qM_lastCounts) (.ref qM_word) (.ref qM_values) (.ref qM_system) (.ref qM_solved) (.ref qM_wrong) _ M_row x1 r43 hu) F ok_Mo_markWrong rfl k_1143 hK hE hP hD hS hA [0, 2] [1, 3, 4, 5, 6, 7, 8, 9, 10, 11, 12, 13, 14, 15, 16, 17] rfl rfl (by decide) (by decide) (by decide) 0 rfl rfl rfl ⟨rfl, rfl, Nat.le_of_ble_eq_true rfl, Nat.le_of_ble_eq_true rfl⟩ ⟨Nat.zero_le _, Nat.zero_le _⟩ rfl hl.1 rfl (Nat.le_of_ble_eq_true rfl) d_Mo_take_32 (fun H locs hP hD hS => ?_)
  have hP : va_P D classes (w_Mo_take cI cJ qM qM_marks qM_row qM_wrongs qM_tells qM_bytes qM_lastCounts qM_elements qM_word qM_powers qM_values qM_logarithms qM_forms qM_system qM_solved qM_wrong qM_rights qM_mixer M_thrown M_pattern M_craft M_begins M_firsts M_seconds M_data M_waiting M_master M_counts M_line M_length M_sent M_state M_places M_least M_rowSize M_differ M_depth M_fill M_half M_blocks M_lastMaster g42 M_row M_wrongs M_tells M_bytes M_lastCounts M_elements M_word M_powers M_values M_logarithms M_forms M_system M_solved M_wrong M_rights M_mixer) H := hP.sub [16, 0, 17, 1, 2, 3, 4, 5, 6, 7, 8, 9, 10, 11, 12, 13, 14, 15] rfl
  have hD : va_D A (w_Mo_take cI cJ qM qM_marks qM_row qM_wrongs qM_tells qM_bytes qM_lastCounts qM_elements qM_word qM_powers qM_values qM_logarithms qM_forms qM_system qM_solved qM_wrong qM_rights qM_mixer M_thrown M_pattern M_craft M_begins M_firsts M_seconds M_data M_waiting M_master M_counts M_line M_length M_sent M_state M_places M_least M_rowSize M_differ M_depth M_fill M_half M_blocks M_lastMaster g42 M_row M_wrongs M_tells M_bytes M_lastCounts M_elements M_word M_powers M_values M_logarithms M_forms M_system M_solved M_wrong M_rights M_mixer) := hD.sub [16, 0, 17, 1, 2, 3, 4, 5, 6, 7, 8, 9, 10, 11, 12, 13, 14, 15] (by decide) rfl
  refine z_iast hm hx hb hK hP hD hS 3 rfl d_Mo_take_35 (fun g45 hm H locs hP hD hS => ?_)
  have hP : va_P D classes (w_Mo_take cI cJ qM qM_marks qM_row qM_wrongs qM_tells qM_bytes qM_lastCounts qM_elements qM_word qM_powers qM_values qM_logarithms qM_forms qM_system qM_solved qM_wrong qM_rights qM_mixer M_thrown M_pattern M_craft M_begins M_firsts M_seconds M_data M_waiting M_master M_counts M_line M_length M_sent M_state M_places M_least M_rowSize M_differ M_depth M_fill M_half M_blocks M_lastMaster g42 M_row g45 M_tells M_bytes M_lastCounts M_elements M_word M_powers M_values M_logarithms M_forms M_system M_solved M_wrong M_rights M_mixer) H := hP
  have hD : va_D A (w_Mo_take cI cJ qM qM_marks qM_row qM_wrongs qM_tells qM_bytes qM_lastCounts qM_elements qM_word qM_powers qM_values qM_logarithms qM_forms qM_system qM_solved qM_wrong qM_rights qM_mixer M_thrown M_pattern M_craft M_begins M_firsts M_seconds M_data M_waiting M_master M_counts M_line M_length M_sent M_state M_places M_least M_rowSize M_differ M_depth M_fill M_half M_blocks M_lastMaster g42 M_row g45 M_tells M_bytes M_lastCounts M_elements M_word M_powers M_values M_logarithms M_forms M_system M_solved M_wrong M_rights M_mixer) := hD
  refine lv_iconst (v := (0 : Int32)) hx hb d_Mo_take_36 (by decide) ?_
  refine lv_istore_n (lv' := [(3, .int (0 : Int32)), (2, .int v41), (0, .ref qM), (1, .int x1)]) hx hb d_Mo_take_37 rfl hl (by decide) rfl (fun ls hl => ?_)
  exact T38 10000 x1 v41 (0 : Int32) M_blocks M_lastMaster g42 g45 M_tells M_bytes M_lastCounts M_word M_values M_system M_solved M_wrong M_rights hm _ _ hP hD hS _ (lv_sub hl [2, 3, 1, 0] rfl)
-- DeepChannelModel.receive(I)I
abbrev b_Mo_receive : ByteArray := prog_13_method_45_code
abbrev y_Mo_receive : MethodName := ⟨"DeepChannelModel", "receive", "(I)I"⟩
theorem d_Mo_receive_0 : decode b_Mo_receive 0 = .ok (.aload_n 0, 1) := by decide +kernel
theorem d_Mo_receive_1 : decode b_Mo_receive 1 = .ok (.iload_n 1, 1) := by decide +kernel
theorem d_Mo_receive_2 : decode b_Mo_receive 2 = .ok (.ifCond .lt 9, 3) := by decide +kernel
theorem d_Mo_receive_5 : decode b_Mo_receive 5 = .ok (.iload_n 1, 1) := by decide +kernel
theorem d_Mo_receive_6 : decode b_Mo_receive 6 = .ok (.bipush 8, 2) := by decide +kernel
theorem d_Mo_receive_8 : decode b_Mo_receive 8 = .ok (.if_icmp .le 7, 3) := by decide +kernel
theorem d_Mo_receive_11 : decode b_Mo_receive 11 = .ok (.iconst 1, 1) := by decide +kernel
theorem d_Mo_receive_12 : decode b_Mo_receive 12 = .ok (.goto 4, 3) := by decide +kernel
theorem d_Mo_receive_15 : decode b_Mo_receive 15 = .ok (.iconst 0, 1) := by decide +kernel
theorem d_Mo_receive_16 : decode b_Mo_receive 16 = .ok (.putfield 103, 3) := by decide +kernel
theorem d_Mo_receive_19 : decode b_Mo_receive 19 = .ok (.aload_n 0, 1) := by decide +kernel
theorem d_Mo_receive_20 : decode b_Mo_receive 20 = .ok (.getfield 103, 3) := by decide +kernel
theorem d_Mo_receive_23 : decode b_Mo_receive 23 = .ok (.ifCond .le 5, 3) := by decide +kernel
theorem d_Mo_receive_26 : decode b_Mo_receive 26 = .ok (.iconst 0, 1) := by decide +kernel
theorem d_Mo_receive_27 : decode b_Mo_receive 27 = .ok (.ireturn, 1) := by decide +kernel
theorem d_Mo_receive_28 : decode b_Mo_receive 28 = .ok (.aload_n 0, 1) := by decide +kernel
theorem d_Mo_receive_29 : decode b_Mo_receive 29 = .ok (.invokevirtual 240, 3) := by decide +kernel
theorem d_Mo_receive_32 : decode b_Mo_receive 32 = .ok (.aload_n 0, 1) := by decide +kernel
theorem d_Mo_receive_33 : decode b_Mo_receive 33 = .ok (.iconst 0, 1) := by decide +kernel
theorem d_Mo_receive_34 : decode b_Mo_receive 34 = .ok (.putfield 135, 3) := by decide +kernel
theorem d_Mo_receive_37 : decode b_Mo_receive 37 = .ok (.aload_n 0, 1) := by decide +kernel
theorem d_Mo_receive_38 : decode b_Mo_receive 38 = .ok (.iconst (-1), 1) := by decide +kernel
theorem d_Mo_receive_39 : decode b_Mo_receive 39 = .ok (.putfield 234, 3) := by decide +kernel
theorem d_Mo_receive_42 : decode b_Mo_receive 42 = .ok (.iconst 0, 1) := by decide +kernel
theorem d_Mo_receive_43 : decode b_Mo_receive 43 = .ok (.istore_n 2, 1) := by decide +kernel
theorem d_Mo_receive_44 : decode b_Mo_receive 44 = .ok (.iload_n 2, 1) := by decide +kernel
theorem d_Mo_receive_45 : decode b_Mo_receive 45 = .ok (.bipush 8, 2) := by decide +kernel
theorem d_Mo_receive_47 : decode b_Mo_receive 47 = .ok (.if_icmp .ge 16, 3) := by decide +kernel
theorem d_Mo_receive_50 : decode b_Mo_receive 50 = .ok (.aload_n 0, 1) := by decide +kernel
theorem d_Mo_receive_51 : decode b_Mo_receive 51 = .ok (.getfield 78, 3) := by decide +kernel
theorem d_Mo_receive_54 : decode b_Mo_receive 54 = .ok (.iload_n 2, 1) := by decide +kernel
theorem d_Mo_receive_55 : decode b_Mo_receive 55 = .ok (.iconst (-1), 1) := by decide +kernel
theorem d_Mo_receive_56 : decode b_Mo_receive 56 = .ok (.iastore, 1) := by decide +kernel
theorem d_Mo_receive_57 : decode b_Mo_receive 57 = .ok (.iinc 2 1, 3) := by decide +kernel
theorem d_Mo_receive_60 : decode b_Mo_receive 60 = .ok (.goto (-16), 3) := by decide +kernel
theorem d_Mo_receive_63 : decode b_Mo_receive 63 = .ok (.iconst 0, 1) := by decide +kernel
theorem d_Mo_receive_64 : decode b_Mo_receive 64 = .ok (.istore_n 2, 1) := by decide +kernel
theorem d_Mo_receive_65 : decode b_Mo_receive 65 = .ok (.iconst (-1), 1) := by decide +kernel
theorem d_Mo_receive_66 : decode b_Mo_receive 66 = .ok (.istore_n 3, 1) := by decide +kernel
theorem d_Mo_receive_67 : decode b_Mo_receive 67 = .ok (.iload_n 2, 1) := by decide +kernel
theorem d_Mo_receive_68 : decode b_Mo_receive 68 = .ok (.bipush 32, 2) := by decide +kernel
theorem d_Mo_receive_70 : decode b_Mo_receive 70 = .ok (.iadd, 1) := by decide +kernel
theorem d_Mo_receive_71 : decode b_Mo_receive 71 = .ok (.bipush 8, 2) := by decide +kernel
theorem d_Mo_receive_73 : decode b_Mo_receive 73 = .ok (.aload_n 0, 1) := by decide +kernel
theorem d_Mo_receive_74 : decode b_Mo_receive 74 = .ok (.invokevirtual 151, 3) := by decide +kernel
theorem d_Mo_receive_77 : decode b_Mo_receive 77 = .ok (.imul, 1) := by decide +kernel
theorem d_Mo_receive_78 : decode b_Mo_receive 78 = .ok (.iadd, 1) := by decide +kernel
theorem d_Mo_receive_79 : decode b_Mo_receive 79 = .ok (.aload_n 0, 1) := by decide +kernel
theorem d_Mo_receive_80 : decode b_Mo_receive 80 = .ok (.getfield 129, 3) := by decide +kernel
theorem d_Mo_receive_83 : decode b_Mo_receive 83 = .ok (.if_icmp .gt 67, 3) := by decide +kernel
theorem d_Mo_receive_86 : decode b_Mo_receive 86 = .ok (.aload_n 0, 1) := by decide +kernel
theorem d_Mo_receive_87 : decode b_Mo_receive 87 = .ok (.iload_n 2, 1) := by decide +kernel
theorem d_Mo_receive_88 : decode b_Mo_receive 88 = .ok (.invokevirtual 225, 3) := by decide +kernel
theorem d_Mo_receive_91 : decode b_Mo_receive 91 = .ok (.iload_n 1, 1) := by decide +kernel
theorem d_Mo_receive_92 : decode b_Mo_receive 92 = .ok (.if_icmp .gt 7, 3) := by decide +kernel
theorem d_Mo_receive_95 : decode b_Mo_receive 95 = .ok (.iconst 1, 1) := by decide +kernel
theorem d_Mo_receive_96 : decode b_Mo_receive 96 = .ok (.goto 4, 3) := by decide +kernel
theorem d_Mo_receive_99 : decode b_Mo_receive 99 = .ok (.iconst 0, 1) := by decide +kernel
theorem d_Mo_receive_100 : decode b_Mo_receive 100 = .ok (.istore 4, 2) := by decide +kernel
theorem d_Mo_receive_102 : decode b_Mo_receive 102 = .ok (.iload 4, 2) := by decide +kernel
theorem d_Mo_receive_104 : decode b_Mo_receive 104 = .ok (.ifCond .ne 8, 3) := by decide +kernel
theorem d_Mo_receive_107 : decode b_Mo_receive 107 = .ok (.iload_n 3, 1) := by decide +kernel
theorem d_Mo_receive_108 : decode b_Mo_receive 108 = .ok (.iload_n 2, 1) := by decide +kernel
theorem d_Mo_receive_109 : decode b_Mo_receive 109 = .ok (.if_icmp .ne 35, 3) := by decide +kernel
theorem d_Mo_receive_112 : decode b_Mo_receive 112 = .ok (.aload_n 0, 1) := by decide +kernel
theorem d_Mo_receive_113 : decode b_Mo_receive 113 = .ok (.iload_n 2, 1) := by decide +kernel
theorem d_Mo_receive_114 : decode b_Mo_receive 114 = .ok (.invokevirtual 243, 3) := by decide +kernel
theorem d_Mo_receive_117 : decode b_Mo_receive 117 = .ok (.iload_n 2, 1) := by decide +kernel
theorem d_Mo_receive_118 : decode b_Mo_receive 118 = .ok (.bipush 32, 2) := by decide +kernel
theorem d_Mo_receive_120 : decode b_Mo_receive 120 = .ok (.iadd, 1) := by decide +kernel
theorem d_Mo_receive_121 : decode b_Mo_receive 121 = .ok (.bipush 8, 2) := by decide +kernel
theorem d_Mo_receive_123 : decode b_Mo_receive 123 = .ok (.aload_n 0, 1) := by decide +kernel
theorem d_Mo_receive_124 : decode b_Mo_receive 124 = .ok (.invokevirtual 151, 3) := by decide +kernel
theorem d_Mo_receive_127 : decode b_Mo_receive 127 = .ok (.imul, 1) := by decide +kernel
theorem d_Mo_receive_128 : decode b_Mo_receive 128 = .ok (.iadd, 1) := by decide +kernel
theorem d_Mo_receive_129 : decode b_Mo_receive 129 = .ok (.istore_n 2, 1) := by decide +kernel
theorem d_Mo_receive_130 : decode b_Mo_receive 130 = .ok (.iload 4, 2) := by decide +kernel
theorem d_Mo_receive_132 : decode b_Mo_receive 132 = .ok (.ifCond .eq 7, 3) := by decide +kernel
theorem d_Mo_receive_135 : decode b_Mo_receive 135 = .ok (.iload_n 2, 1) := by decide +kernel
theorem d_Mo_receive_136 : decode b_Mo_receive 136 = .ok (.goto 4, 3) := by decide +kernel
theorem d_Mo_receive_139 : decode b_Mo_receive 139 = .ok (.iconst (-1), 1) := by decide +kernel
theorem d_Mo_receive_140 : decode b_Mo_receive 140 = .ok (.istore_n 3, 1) := by decide +kernel
theorem d_Mo_receive_141 : decode b_Mo_receive 141 = .ok (.goto 6, 3) := by decide +kernel
theorem d_Mo_receive_144 : decode b_Mo_receive 144 = .ok (.iinc 2 1, 3) := by decide +kernel
theorem d_Mo_receive_147 : decode b_Mo_receive 147 = .ok (.goto (-80), 3) := by decide +kernel
theorem d_Mo_receive_150 : decode b_Mo_receive 150 = .ok (.aload_n 0, 1) := by decide +kernel
theorem d_Mo_receive_151 : decode b_Mo_receive 151 = .ok (.getfield 135, 3) := by decide +kernel
theorem d_Mo_receive_154 : decode b_Mo_receive 154 = .ok (.ireturn, 1) := by decide +kernel
theorem ok_Mo_receive : OKv y_Mo_receive b_Mo_receive 5 (some .int) "DeepChannelModel" 1 := ⟨k_1130, k_1128, k_1129, k_55, by decide +kernel, by decide +kernel, by decide +kernel⟩
abbrev w_Mo_receive (cI cJ : ClassId) (qM qM_begins qM_firsts qM_seconds qM_least qM_places qM_line qM_row qM_marks qM_wrongs qM_tells qM_bytes qM_lastCounts qM_elements qM_word qM_powers qM_values qM_logarithms qM_forms qM_system qM_solved qM_wrong qM_rights qM_mixer : Nat) (M_craft M_data M_waiting M_master M_counts M_sent M_state : Value) (M_thrown : Int32) (M_depth : Int32) (M_fill : Int32) (M_half : Int32) (M_pattern : Int32) (M_length : Int32) (M_rowSize : Int32) (M_differ : Int32) (M_blocks : Int32) (M_lastMaster : Int32) (M_begins : Nat → Int32) (M_firsts : Nat → Int32) (M_seconds : Nat → Int32) (M_least : Nat → Int32) (M_places : Nat → Int32) (M_line : Nat → Int32) (M_row : Nat → Int32) (M_marks : Nat → Int32) (M_wrongs : Nat → Int32) (M_tells : Nat → Int32) (M_bytes : Nat → Int32) (M_lastCounts : Nat → Int32) (M_elements : Nat → Int32) (M_word : Nat → Int32) (M_powers : Nat → Int32) (M_values : Nat → Int32) (M_logarithms : Nat → Int32) (M_forms : Nat → Int32) (M_system : Nat → Int32) (M_solved : Nat → Int32) (M_wrong : Nat → Int32) (M_rights : Nat → Int32) (M_mixer : Nat → Int32) : va_W := [(qM, .inr (11, [.int M_thrown, .int M_depth, .int M_fill, .int M_half, .int M_pattern, M_craft, .ref qM_begins, .ref qM_firsts, .ref qM_seconds, .ref qM_powers, .ref qM_logarithms, .ref qM_forms, .ref qM_elements, .ref qM_mixer, M_data, M_waiting, M_master, M_counts, .ref qM_line, .int M_length, M_sent, M_state, .ref qM_places, .ref qM_least, .ref qM_row, .int M_rowSize, .int M_differ, .int M_blocks, .ref qM_marks, .ref qM_wrongs, .ref qM_bytes, .ref qM_rights, .ref qM_tells, .int M_lastMaster, .ref qM_lastCounts, .ref qM_word, .ref qM_values, .ref qM_system, .ref qM_solved, .ref qM_wrong])), (qM_begins, .inl (cI, 6, .inl M_begins)), (qM_firsts, .inl (cI, 18, .inl M_firsts)), (qM_seconds, .inl (cI, 18, .inl M_seconds)), (qM_least, .inl (cI, 230464, .inl M_least)), (qM_places, .inl (cI, 3600, .inl M_places)), (qM_line, .inl (cI, 4096, .inl M_line)), (qM_row, .inl (cI, 3600, .inl M_row)), (qM_marks, .inl (cI, 16, .inl M_marks)), (qM_wrongs, .inl (cI, 16, .inl M_wrongs)), (qM_tells, .inl (cI, 96, .inl M_tells)), (qM_bytes, .inl (cI, 4000, .inl M_bytes)), (qM_lastCounts, .inl (cI, 8, .inl M_lastCounts)), (qM_elements, .inl (cI, 256, .inl M_elements)), (qM_word, .inl (cI, 255, .inl M_word)), (qM_powers, .inl (cI, 255, .inl M_powers)), (qM_values, .inl (cI, 32, .inl M_values)), (qM_logarithms, .inl (cI, 256, .inl M_logarithms)), (qM_forms, .inl (cI, 256, .inl M_forms)), (qM_system, .inl (cI, 1056, .inl M_system)), (qM_solved, .inl (cI, 32, .inl M_solved)), (qM_wrong, .inl (cI, 16, .inl M_wrong)), (qM_rights, .inl (cI, 128, .inl M_rights)), (qM_mixer, .inl (cI, 250, .inl M_mixer))]
def f_Mo_receive_147 (kh67 : Int32 → Int32 → Int32 → Int32 → Int32 → Int32 → Int32 → Int32 → (Nat → Int32) → (Nat → Int32) → (Nat → Int32) → (Nat → Int32) → (Nat → Int32) → (Nat → Int32) → (Nat → Int32) → (Nat → Int32) → (Nat → Int32) → (Nat → Int32) → (Nat → Int32) → (Nat → Int32) → (Nat → Int32) → (Nat → Int32) → Option (Int32 × Int32 × Int32 × Int32 × Int32 × Int32 × (Nat → Int32) × (Nat → Int32) × (Nat → Int32) × (Nat → Int32) × (Nat → Int32) × (Nat → Int32) × (Nat → Int32) × (Nat → Int32) × (Nat → Int32) × (Nat → Int32) × (Nat → Int32) × (Nat → Int32) × (Nat → Int32) × (Nat → Int32))) (x1 : Int32) (x2 : Int32) (x3 : Int32) (M_thrown : Int32) (M_rowSize : Int32) (M_differ : Int32) (M_blocks : Int32) (M_lastMaster : Int32) (M_least : Nat → Int32) (M_places : Nat → Int32) (M_row : Nat → Int32) (M_marks : Nat → Int32) (M_wrongs : Nat → Int32) (M_tells : Nat → Int32) (M_bytes : Nat → Int32) (M_lastCounts : Nat → Int32) (M_word : Nat → Int32) (M_values : Nat → Int32) (M_system : Nat → Int32) (M_solved : Nat → Int32) (M_wrong : Nat → Int32) (M_rights : Nat → Int32) : Option (Int32 × Int32 × Int32 × Int32 × Int32 × Int32 × (Nat → Int32) × (Nat → Int32) × (Nat → Int32) × (Nat → Int32) × (Nat → Int32) × (Nat → Int32) × (Nat → Int32) × (Nat → Int32) × (Nat → Int32) × (Nat → Int32) × (Nat → Int32) × (Nat → Int32) × (Nat → Int32) × (Nat → Int32)) :=
  kh67 x1 x2 x3 M_thrown M_rowSize M_differ M_blocks M_lastMaster M_least M_places M_row M_marks M_wrongs M_tells M_bytes M_lastCounts M_word M_values M_system M_solved M_wrong M_rights
def f_Mo_receive_140 (kh67 : Int32 → Int32 → Int32 → Int32 → Int32 → Int32 → Int32 → Int32 → (Nat → Int32) → (Nat → Int32) → (Nat → Int32) → (Nat → Int32) → (Nat → Int32) → (Nat → Int32) → (Nat → Int32) → (Nat → Int32) → (Nat → Int32) → (Nat → Int32) → (Nat → Int32) → (Nat → Int32) → (Nat → Int32) → (Nat → Int32) → Option (Int32 × Int32 × Int32 × Int32 × Int32 × Int32 × (Nat → Int32) × (Nat → Int32) × (Nat → Int32) × (Nat → Int32) × (Nat → Int32) × (Nat → Int32) × (Nat → Int32) × (Nat → Int32) × (Nat → Int32) × (Nat → Int32) × (Nat → Int32) × (Nat → Int32) × (Nat → Int32) × (Nat → Int32))) (x1 : Int32) (x2 : Int32) (t0 : Int32) (M_thrown : Int32) (M_rowSize : Int32) (M_differ : Int32) (M_blocks : Int32) (M_lastMaster : Int32) (M_least : Nat → Int32) (M_places : Nat → Int32) (M_row : Nat → Int32) (M_marks : Nat → Int32) (M_wrongs : Nat → Int32) (M_tells : Nat → Int32) (M_bytes : Nat → Int32) (M_lastCounts : Nat → Int32) (M_word : Nat → Int32) (M_values : Nat → Int32) (M_system : Nat → Int32) (M_solved : Nat → Int32) (M_wrong : Nat → Int32) (M_rights : Nat → Int32) : Option (Int32 × Int32 × Int32 × Int32 × Int32 × Int32 × (Nat → Int32) × (Nat → Int32) × (Nat → Int32) × (Nat → Int32) × (Nat → Int32) × (Nat → Int32) × (Nat → Int32) × (Nat → Int32) × (Nat → Int32) × (Nat → Int32) × (Nat → Int32) × (Nat → Int32) × (Nat → Int32) × (Nat → Int32)) :=
  f_Mo_receive_147 kh67 x1 x2 t0 M_thrown M_rowSize M_differ M_blocks M_lastMaster M_least M_places M_row M_marks M_wrongs M_tells M_bytes M_lastCounts M_word M_values M_system M_solved M_wrong M_rights
def f_Mo_receive_112 (M_depth : Int32) (M_fill : Int32) (M_half : Int32) (M_elements : Nat → Int32) (M_powers : Nat → Int32) (M_logarithms : Nat → Int32) (M_forms : Nat → Int32) (M_mixer : Nat → Int32) (kh67 : Int32 → Int32 → Int32 → Int32 → Int32 → Int32 → Int32 → Int32 → (Nat → Int32) → (Nat → Int32) → (Nat → Int32) → (Nat → Int32) → (Nat → Int32) → (Nat → Int32) → (Nat → Int32) → (Nat → Int32) → (Nat → Int32) → (Nat → Int32) → (Nat → Int32) → (Nat → Int32) → (Nat → Int32) → (Nat → Int32) → Option (Int32 × Int32 × Int32 × Int32 × Int32 × Int32 × (Nat → Int32) × (Nat → Int32) × (Nat → Int32) × (Nat → Int32) × (Nat → Int32) × (Nat → Int32) × (Nat → Int32) × (Nat → Int32) × (Nat → Int32) × (Nat → Int32) × (Nat → Int32) × (Nat → Int32) × (Nat → Int32) × (Nat → Int32))) (x1 : Int32) (x2 : Int32) (x4 : Int32) (M_thrown : Int32) (M_rowSize : Int32) (M_differ : Int32) (M_blocks : Int32) (M_lastMaster : Int32) (M_least : Nat → Int32) (M_places : Nat → Int32) (M_row : Nat → Int32) (M_marks : Nat → Int32) (M_wrongs : Nat → Int32) (M_tells : Nat → Int32) (M_bytes : Nat → Int32) (M_lastCounts : Nat → Int32) (M_word : Nat → Int32) (M_values : Nat → Int32) (M_system : Nat → Int32) (M_solved : Nat → Int32) (M_wrong : Nat → Int32) (M_rights : Nat → Int32) : Option (Int32 × Int32 × Int32 × Int32 × Int32 × Int32 × (Nat → Int32) × (Nat → Int32) × (Nat → Int32) × (Nat → Int32) × (Nat → Int32) × (Nat → Int32) × (Nat → Int32) × (Nat → Int32) × (Nat → Int32) × (Nat → Int32) × (Nat → Int32) × (Nat → Int32) × (Nat → Int32) × (Nat → Int32)) :=
  bd (f_Mo_take M_depth M_fill M_half M_blocks M_lastMaster M_marks M_row M_wrongs M_tells M_bytes M_lastCounts M_elements M_word M_powers M_values M_logarithms M_forms M_system M_solved M_wrong M_rights M_mixer x2) fun u14 =>
  nm u14.1 fun v1 =>
  nm u14.2.1 fun v2 =>
  nm u14.2.2.1 fun g3 =>
  nm u14.2.2.2.1 fun g4 =>
  nm u14.2.2.2.2.1 fun g5 =>
  nm u14.2.2.2.2.2.1 fun g6 =>
  nm u14.2.2.2.2.2.2.1 fun g7 =>
  nm u14.2.2.2.2.2.2.2.1 fun g8 =>
  nm u14.2.2.2.2.2.2.2.2.1 fun g9 =>
  nm u14.2.2.2.2.2.2.2.2.2.1 fun g10 =>
  nm u14.2.2.2.2.2.2.2.2.2.2.1 fun g11 =>
  nm u14.2.2.2.2.2.2.2.2.2.2.2.1 fun g12 =>
  nm u14.2.2.2.2.2.2.2.2.2.2.2.2 fun g13 =>
  bd (f_Mo_blockSize M_depth M_fill) fun u16 =>
  nm u16 fun r15 =>
  nm ((x2 + (32 : Int32)) + ((8 : Int32) * r15)) fun v17 =>
  if x4 = 0 then
    f_Mo_receive_140 kh67 x1 v17 (-1 : Int32) M_thrown M_rowSize M_differ v1 v2 M_least M_places M_row g3 g4 g5 g6 g7 g8 g9 g10 g11 g12 g13
  else
  f_Mo_receive_140 kh67 x1 v17 v17 M_thrown M_rowSize M_differ v1 v2 M_least M_places M_row g3 g4 g5 g6 g7 g8 g9 g10 g11 g12 g13
def f_Mo_receive_100 (M_depth : Int32) (M_fill : Int32) (M_half : Int32) (M_elements : Nat → Int32) (M_powers : Nat → Int32) (M_logarithms : Nat → Int32) (M_forms : Nat → Int32) (M_mixer : Nat → Int32) (kh67 : Int32 → Int32 → Int32 → Int32 → Int32 → Int32 → Int32 → Int32 → (Nat → Int32) → (Nat → Int32) → (Nat → Int32) → (Nat → Int32) → (Nat → Int32) → (Nat → Int32) → (Nat → Int32) → (Nat → Int32) → (Nat → Int32) → (Nat → Int32) → (Nat → Int32) → (Nat → Int32) → (Nat → Int32) → (Nat → Int32) → Option (Int32 × Int32 × Int32 × Int32 × Int32 × Int32 × (Nat → Int32) × (Nat → Int32) × (Nat → Int32) × (Nat → Int32) × (Nat → Int32) × (Nat → Int32) × (Nat → Int32) × (Nat → Int32) × (Nat → Int32) × (Nat → Int32) × (Nat → Int32) × (Nat → Int32) × (Nat → Int32) × (Nat → Int32))) (x1 : Int32) (x2 : Int32) (x3 : Int32) (t0 : Int32) (M_thrown : Int32) (M_rowSize : Int32) (M_differ : Int32) (M_blocks : Int32) (M_lastMaster : Int32) (M_least : Nat → Int32) (M_places : Nat → Int32) (M_row : Nat → Int32) (M_marks : Nat → Int32) (M_wrongs : Nat → Int32) (M_tells : Nat → Int32) (M_bytes : Nat → Int32) (M_lastCounts : Nat → Int32) (M_word : Nat → Int32) (M_values : Nat → Int32) (M_system : Nat → Int32) (M_solved : Nat → Int32) (M_wrong : Nat → Int32) (M_rights : Nat → Int32) : Option (Int32 × Int32 × Int32 × Int32 × Int32 × Int32 × (Nat → Int32) × (Nat → Int32) × (Nat → Int32) × (Nat → Int32) × (Nat → Int32) × (Nat → Int32) × (Nat → Int32) × (Nat → Int32) × (Nat → Int32) × (Nat → Int32) × (Nat → Int32) × (Nat → Int32) × (Nat → Int32) × (Nat → Int32)) :=
  if t0 = 0 then
    if x3 = x2 then
      f_Mo_receive_112 M_depth M_fill M_half M_elements M_powers M_logarithms M_forms M_mixer kh67 x1 x2 t0 M_thrown M_rowSize M_differ M_blocks M_lastMaster M_least M_places M_row M_marks M_wrongs M_tells M_bytes M_lastCounts M_word M_values M_system M_solved M_wrong M_rights
    else
    nm (x2 + (1 : Int32)) fun v18 =>
    f_Mo_receive_147 kh67 x1 v18 x3 M_thrown M_rowSize M_differ M_blocks M_lastMaster M_least M_places M_row M_marks M_wrongs M_tells M_bytes M_lastCounts M_word M_values M_system M_solved M_wrong M_rights
  else
  f_Mo_receive_112 M_depth M_fill M_half M_elements M_powers M_logarithms M_forms M_mixer kh67 x1 x2 t0 M_thrown M_rowSize M_differ M_blocks M_lastMaster M_least M_places M_row M_marks M_wrongs M_tells M_bytes M_lastCounts M_word M_values M_system M_solved M_wrong M_rights
def f_Mo_receive_67_b (M_depth : Int32) (M_fill : Int32) (M_half : Int32) (M_elements : Nat → Int32) (M_powers : Nat → Int32) (M_logarithms : Nat → Int32) (M_forms : Nat → Int32) (M_mixer : Nat → Int32) (kh67 : Int32 → Int32 → Int32 → Int32 → Int32 → Int32 → Int32 → Int32 → (Nat → Int32) → (Nat → Int32) → (Nat → Int32) → (Nat → Int32) → (Nat → Int32) → (Nat → Int32) → (Nat → Int32) → (Nat → Int32) → (Nat → Int32) → (Nat → Int32) → (Nat → Int32) → (Nat → Int32) → (Nat → Int32) → (Nat → Int32) → Option (Int32 × Int32 × Int32 × Int32 × Int32 × Int32 × (Nat → Int32) × (Nat → Int32) × (Nat → Int32) × (Nat → Int32) × (Nat → Int32) × (Nat → Int32) × (Nat → Int32) × (Nat → Int32) × (Nat → Int32) × (Nat → Int32) × (Nat → Int32) × (Nat → Int32) × (Nat → Int32) × (Nat → Int32))) (x1 : Int32) (x2 : Int32) (x3 : Int32) (M_thrown : Int32) (M_rowSize : Int32) (M_differ : Int32) (M_blocks : Int32) (M_lastMaster : Int32) (M_least : Nat → Int32) (M_places : Nat → Int32) (M_row : Nat → Int32) (M_marks : Nat → Int32) (M_wrongs : Nat → Int32) (M_tells : Nat → Int32) (M_bytes : Nat → Int32) (M_lastCounts : Nat → Int32) (M_word : Nat → Int32) (M_values : Nat → Int32) (M_system : Nat → Int32) (M_solved : Nat → Int32) (M_wrong : Nat → Int32) (M_rights : Nat → Int32) : Option (Int32 × Int32 × Int32 × Int32 × Int32 × Int32 × (Nat → Int32) × (Nat → Int32) × (Nat → Int32) × (Nat → Int32) × (Nat → Int32) × (Nat → Int32) × (Nat → Int32) × (Nat → Int32) × (Nat → Int32) × (Nat → Int32) × (Nat → Int32) × (Nat → Int32) × (Nat → Int32) × (Nat → Int32)) :=
  bd (f_Mo_blockSize M_depth M_fill) fun u20 =>
  nm u20 fun r19 =>
  if M_rowSize < ((x2 + (32 : Int32)) + ((8 : Int32) * r19)) then
    some (M_blocks, M_thrown, M_rowSize, M_differ, M_blocks, M_lastMaster, M_least, M_places, M_row, M_marks, M_wrongs, M_tells, M_bytes, M_lastCounts, M_word, M_values, M_system, M_solved, M_wrong, M_rights)
  else
  bd (f_Mo_markWrong M_row x2) fun u22 =>
  nm u22 fun r21 =>
  if x1 < r21 then
    f_Mo_receive_100 M_depth M_fill M_half M_elements M_powers M_logarithms M_forms M_mixer kh67 x1 x2 x3 (0 : Int32) M_thrown M_rowSize M_differ M_blocks M_lastMaster M_least M_places M_row M_marks M_wrongs M_tells M_bytes M_lastCounts M_word M_values M_system M_solved M_wrong M_rights
  else
  f_Mo_receive_100 M_depth M_fill M_half M_elements M_powers M_logarithms M_forms M_mixer kh67 x1 x2 x3 (1 : Int32) M_thrown M_rowSize M_differ M_blocks M_lastMaster M_least M_places M_row M_marks M_wrongs M_tells M_bytes M_lastCounts M_word M_values M_system M_solved M_wrong M_rights
def f_Mo_receive_67 (M_depth : Int32) (M_fill : Int32) (M_half : Int32) (M_elements : Nat → Int32) (M_powers : Nat → Int32) (M_logarithms : Nat → Int32) (M_forms : Nat → Int32) (M_mixer : Nat → Int32) : Nat → Int32 → Int32 → Int32 → Int32 → Int32 → Int32 → Int32 → Int32 → (Nat → Int32) → (Nat → Int32) → (Nat → Int32) → (Nat → Int32) → (Nat → Int32) → (Nat → Int32) → (Nat → Int32) → (Nat → Int32) → (Nat → Int32) → (Nat → Int32) → (Nat → Int32) → (Nat → Int32) → (Nat → Int32) → (Nat → Int32) → Option (Int32 × Int32 × Int32 × Int32 × Int32 × Int32 × (Nat → Int32) × (Nat → Int32) × (Nat → Int32) × (Nat → Int32) × (Nat → Int32) × (Nat → Int32) × (Nat → Int32) × (Nat → Int32) × (Nat → Int32) × (Nat → Int32) × (Nat → Int32) × (Nat → Int32) × (Nat → Int32) × (Nat → Int32))
  | 0 => fun _ _ _ _ _ _ _ _ _ _ _ _ _ _ _ _ _ _ _ _ _ _ => none
  | n + 1 => fun x1 x2 x3 M_thrown M_rowSize M_differ M_blocks M_lastMaster M_least M_places M_row M_marks M_wrongs M_tells M_bytes M_lastCounts M_word M_values M_system M_solved M_wrong M_rights => f_Mo_receive_67_b M_depth M_fill M_half M_elements M_powers M_logarithms M_forms M_mixer (f_Mo_receive_67 M_depth M_fill M_half M_elements M_powers M_logarithms M_forms M_mixer n) x1 x2 x3 M_thrown M_rowSize M_differ M_blocks M_lastMaster M_least M_places M_row M_marks M_wrongs M_tells M_bytes M_lastCounts M_word M_values M_system M_solved M_wrong M_rights
def f_Mo_receive_63 (M_depth : Int32) (M_fill : Int32) (M_half : Int32) (M_elements : Nat → Int32) (M_powers : Nat → Int32) (M_logarithms : Nat → Int32) (M_forms : Nat → Int32) (M_mixer : Nat → Int32) (x1 : Int32) (M_thrown : Int32) (M_rowSize : Int32) (M_differ : Int32) (M_blocks : Int32) (M_lastMaster : Int32) (M_least : Nat → Int32) (M_places : Nat → Int32) (M_row : Nat → Int32) (M_marks : Nat → Int32) (M_wrongs : Nat → Int32) (M_tells : Nat → Int32) (M_bytes : Nat → Int32) (M_lastCounts : Nat → Int32) (M_word : Nat → Int32) (M_values : Nat → Int32) (M_system : Nat → Int32) (M_solved : Nat → Int32) (M_wrong : Nat → Int32) (M_rights : Nat → Int32) : Option (Int32 × Int32 × Int32 × Int32 × Int32 × Int32 × (Nat → Int32) × (Nat → Int32) × (Nat → Int32) × (Nat → Int32) × (Nat → Int32) × (Nat → Int32) × (Nat → Int32) × (Nat → Int32) × (Nat → Int32) × (Nat → Int32) × (Nat → Int32) × (Nat → Int32) × (Nat → Int32) × (Nat → Int32)) :=
  f_Mo_receive_67 M_depth M_fill M_half M_elements M_powers M_logarithms M_forms M_mixer 10000 x1 (0 : Int32) (-1 : Int32) M_thrown M_rowSize M_differ M_blocks M_lastMaster M_least M_places M_row M_marks M_wrongs M_tells M_bytes M_lastCounts M_word M_values M_system M_solved M_wrong M_rights
def f_Mo_receive_44_b (M_depth : Int32) (M_fill : Int32) (M_half : Int32) (M_elements : Nat → Int32) (M_powers : Nat → Int32) (M_logarithms : Nat → Int32) (M_forms : Nat → Int32) (M_mixer : Nat → Int32) (kh44 : Int32 → Int32 → Int32 → Int32 → Int32 → Int32 → Int32 → (Nat → Int32) → (Nat → Int32) → (Nat → Int32) → (Nat → Int32) → (Nat → Int32) → (Nat → Int32) → (Nat → Int32) → (Nat → Int32) → (Nat → Int32) → (Nat → Int32) → (Nat → Int32) → (Nat → Int32) → (Nat → Int32) → (Nat → Int32) → Option (Int32 × Int32 × Int32 × Int32 × Int32 × Int32 × (Nat → Int32) × (Nat → Int32) × (Nat → Int32) × (Nat → Int32) × (Nat → Int32) × (Nat → Int32) × (Nat → Int32) × (Nat → Int32) × (Nat → Int32) × (Nat → Int32) × (Nat → Int32) × (Nat → Int32) × (Nat → Int32) × (Nat → Int32))) (x1 : Int32) (x2 : Int32) (M_thrown : Int32) (M_rowSize : Int32) (M_differ : Int32) (M_blocks : Int32) (M_lastMaster : Int32) (M_least : Nat → Int32) (M_places : Nat → Int32) (M_row : Nat → Int32) (M_marks : Nat → Int32) (M_wrongs : Nat → Int32) (M_tells : Nat → Int32) (M_bytes : Nat → Int32) (M_lastCounts : Nat → Int32) (M_word : Nat → Int32) (M_values : Nat → Int32) (M_system : Nat → Int32) (M_solved : Nat → Int32) (M_wrong : Nat → Int32) (M_rights : Nat → Int32) : Option (Int32 × Int32 × Int32 × Int32 × Int32 × Int32 × (Nat → Int32) × (Nat → Int32) × (Nat → Int32) × (Nat → Int32) × (Nat → Int32) × (Nat → Int32) × (Nat → Int32) × (Nat → Int32) × (Nat → Int32) × (Nat → Int32) × (Nat → Int32) × (Nat → Int32) × (Nat → Int32) × (Nat → Int32)) :=
  if (8 : Int32) ≤ x2 then
    f_Mo_receive_63 M_depth M_fill M_half M_elements M_powers M_logarithms M_forms M_mixer x1 M_thrown M_rowSize M_differ M_blocks M_lastMaster M_least M_places M_row M_marks M_wrongs M_tells M_bytes M_lastCounts M_word M_values M_system M_solved M_wrong M_rights
  else
  wrI M_lastCounts 8 x2 (-1 : Int32) fun g23 =>
  nm (x2 + (1 : Int32)) fun v24 =>
  kh44 x1 v24 M_thrown M_rowSize M_differ M_blocks M_lastMaster M_least M_places M_row M_marks M_wrongs M_tells M_bytes g23 M_word M_values M_system M_solved M_wrong M_rights
def f_Mo_receive_44 (M_depth : Int32) (M_fill : Int32) (M_half : Int32) (M_elements : Nat → Int32) (M_powers : Nat → Int32) (M_logarithms : Nat → Int32) (M_forms : Nat → Int32) (M_mixer : Nat → Int32) : Nat → Int32 → Int32 → Int32 → Int32 → Int32 → Int32 → Int32 → (Nat → Int32) → (Nat → Int32) → (Nat → Int32) → (Nat → Int32) → (Nat → Int32) → (Nat → Int32) → (Nat → Int32) → (Nat → Int32) → (Nat → Int32) → (Nat → Int32) → (Nat → Int32) → (Nat → Int32) → (Nat → Int32) → (Nat → Int32) → Option (Int32 × Int32 × Int32 × Int32 × Int32 × Int32 × (Nat → Int32) × (Nat → Int32) × (Nat → Int32) × (Nat → Int32) × (Nat → Int32) × (Nat → Int32) × (Nat → Int32) × (Nat → Int32) × (Nat → Int32) × (Nat → Int32) × (Nat → Int32) × (Nat → Int32) × (Nat → Int32) × (Nat → Int32))
  | 0 => fun _ _ _ _ _ _ _ _ _ _ _ _ _ _ _ _ _ _ _ _ _ => none
  | n + 1 => fun x1 x2 M_thrown M_rowSize M_differ M_blocks M_lastMaster M_least M_places M_row M_marks M_wrongs M_tells M_bytes M_lastCounts M_word M_values M_system M_solved M_wrong M_rights => f_Mo_receive_44_b M_depth M_fill M_half M_elements M_powers M_logarithms M_forms M_mixer (f_Mo_receive_44 M_depth M_fill M_half M_elements M_powers M_logarithms M_forms M_mixer n) x1 x2 M_thrown M_rowSize M_differ M_blocks M_lastMaster M_least M_places M_row M_marks M_wrongs M_tells M_bytes M_lastCounts M_word M_values M_system M_solved M_wrong M_rights
def f_Mo_receive_16 (M_depth : Int32) (M_fill : Int32) (M_half : Int32) (M_pattern : Int32) (M_length : Int32) (M_begins : Nat → Int32) (M_firsts : Nat → Int32) (M_seconds : Nat → Int32) (M_line : Nat → Int32) (M_elements : Nat → Int32) (M_powers : Nat → Int32) (M_logarithms : Nat → Int32) (M_forms : Nat → Int32) (M_mixer : Nat → Int32) (x1 : Int32) (t1 : Int32) (M_thrown : Int32) (M_rowSize : Int32) (M_differ : Int32) (M_blocks : Int32) (M_lastMaster : Int32) (M_least : Nat → Int32) (M_places : Nat → Int32) (M_row : Nat → Int32) (M_marks : Nat → Int32) (M_wrongs : Nat → Int32) (M_tells : Nat → Int32) (M_bytes : Nat → Int32) (M_lastCounts : Nat → Int32) (M_word : Nat → Int32) (M_values : Nat → Int32) (M_system : Nat → Int32) (M_solved : Nat → Int32) (M_wrong : Nat → Int32) (M_rights : Nat → Int32) : Option (Int32 × Int32 × Int32 × Int32 × Int32 × Int32 × (Nat → Int32) × (Nat → Int32) × (Nat → Int32) × (Nat → Int32) × (Nat → Int32) × (Nat → Int32) × (Nat → Int32) × (Nat → Int32) × (Nat → Int32) × (Nat → Int32) × (Nat → Int32) × (Nat → Int32) × (Nat → Int32) × (Nat → Int32)) :=
  if t1 ≤ 0 then
    bd (f_Mo_decode M_pattern M_length M_rowSize M_differ M_begins M_firsts M_seconds M_least M_places M_line M_row) fun u30 =>
    nm u30.1 fun v25 =>
    nm u30.2.1 fun v26 =>
    nm u30.2.2.1 fun g27 =>
    nm u30.2.2.2.1 fun g28 =>
    nm u30.2.2.2.2 fun g29 =>
    f_Mo_receive_44 M_depth M_fill M_half M_elements M_powers M_logarithms M_forms M_mixer 10000 x1 (0 : Int32) t1 v25 v26 (0 : Int32) (-1 : Int32) g27 g28 g29 M_marks M_wrongs M_tells M_bytes M_lastCounts M_word M_values M_system M_solved M_wrong M_rights
  else
  some ((0 : Int32), t1, M_rowSize, M_differ, M_blocks, M_lastMaster, M_least, M_places, M_row, M_marks, M_wrongs, M_tells, M_bytes, M_lastCounts, M_word, M_values, M_system, M_solved, M_wrong, M_rights)
def f_Mo_receive_11 (M_depth : Int32) (M_fill : Int32) (M_half : Int32) (M_pattern : Int32) (M_length : Int32) (M_begins : Nat → Int32) (M_firsts : Nat → Int32) (M_seconds : Nat → Int32) (M_line : Nat → Int32) (M_elements : Nat → Int32) (M_powers : Nat → Int32) (M_logarithms : Nat → Int32) (M_forms : Nat → Int32) (M_mixer : Nat → Int32) (x1 : Int32) (M_thrown : Int32) (M_rowSize : Int32) (M_differ : Int32) (M_blocks : Int32) (M_lastMaster : Int32) (M_least : Nat → Int32) (M_places : Nat → Int32) (M_row : Nat → Int32) (M_marks : Nat → Int32) (M_wrongs : Nat → Int32) (M_tells : Nat → Int32) (M_bytes : Nat → Int32) (M_lastCounts : Nat → Int32) (M_word : Nat → Int32) (M_values : Nat → Int32) (M_system : Nat → Int32) (M_solved : Nat → Int32) (M_wrong : Nat → Int32) (M_rights : Nat → Int32) : Option (Int32 × Int32 × Int32 × Int32 × Int32 × Int32 × (Nat → Int32) × (Nat → Int32) × (Nat → Int32) × (Nat → Int32) × (Nat → Int32) × (Nat → Int32) × (Nat → Int32) × (Nat → Int32) × (Nat → Int32) × (Nat → Int32) × (Nat → Int32) × (Nat → Int32) × (Nat → Int32) × (Nat → Int32)) :=
  f_Mo_receive_16 M_depth M_fill M_half M_pattern M_length M_begins M_firsts M_seconds M_line M_elements M_powers M_logarithms M_forms M_mixer x1 (1 : Int32) M_thrown M_rowSize M_differ M_blocks M_lastMaster M_least M_places M_row M_marks M_wrongs M_tells M_bytes M_lastCounts M_word M_values M_system M_solved M_wrong M_rights
def f_Mo_receive (M_thrown : Int32) (M_depth : Int32) (M_fill : Int32) (M_half : Int32) (M_pattern : Int32) (M_length : Int32) (M_rowSize : Int32) (M_differ : Int32) (M_blocks : Int32) (M_lastMaster : Int32) (M_begins : Nat → Int32) (M_firsts : Nat → Int32) (M_seconds : Nat → Int32) (M_least : Nat → Int32) (M_places : Nat → Int32) (M_line : Nat → Int32) (M_row : Nat → Int32) (M_marks : Nat → Int32) (M_wrongs : Nat → Int32) (M_tells : Nat → Int32) (M_bytes : Nat → Int32) (M_lastCounts : Nat → Int32) (M_elements : Nat → Int32) (M_word : Nat → Int32) (M_powers : Nat → Int32) (M_values : Nat → Int32) (M_logarithms : Nat → Int32) (M_forms : Nat → Int32) (M_system : Nat → Int32) (M_solved : Nat → Int32) (M_wrong : Nat → Int32) (M_rights : Nat → Int32) (M_mixer : Nat → Int32) (x1 : Int32) : Option (Int32 × Int32 × Int32 × Int32 × Int32 × Int32 × (Nat → Int32) × (Nat → Int32) × (Nat → Int32) × (Nat → Int32) × (Nat → Int32) × (Nat → Int32) × (Nat → Int32) × (Nat → Int32) × (Nat → Int32) × (Nat → Int32) × (Nat → Int32) × (Nat → Int32) × (Nat → Int32) × (Nat → Int32)) :=
  if x1 < 0 then
    f_Mo_receive_11 M_depth M_fill M_half M_pattern M_length M_begins M_firsts M_seconds M_line M_elements M_powers M_logarithms M_forms M_mixer x1 M_thrown M_rowSize M_differ M_blocks M_lastMaster M_least M_places M_row M_marks M_wrongs M_tells M_bytes M_lastCounts M_word M_values M_system M_solved M_wrong M_rights
  else
  if x1 ≤ (8 : Int32) then
    f_Mo_receive_16 M_depth M_fill M_half M_pattern M_length M_begins M_firsts M_seconds M_line M_elements M_powers M_logarithms M_forms M_mixer x1 (0 : Int32) M_thrown M_rowSize M_differ M_blocks M_lastMaster M_least M_places M_row M_marks M_wrongs M_tells M_bytes M_lastCounts M_word M_values M_system M_solved M_wrong M_rights
  else
  f_Mo_receive_11 M_depth M_fill M_half M_pattern M_length M_begins M_firsts M_seconds M_line M_elements M_powers M_logarithms M_forms M_mixer x1 M_thrown M_rowSize M_differ M_blocks M_lastMaster M_least M_places M_row M_marks M_wrongs M_tells M_bytes M_lastCounts M_word M_values M_system M_solved M_wrong M_rights
set_option maxHeartbeats 4000000 in
set_option maxRecDepth 100000 in
theorem c_Mo_receive (l : Launch) (D : va_G) (cI cJ : ClassId) (tt : Nat → Nat) (qM qM_begins qM_firsts qM_seconds qM_least qM_places qM_line qM_row qM_marks qM_wrongs qM_tells qM_bytes qM_lastCounts qM_elements qM_word qM_powers qM_values qM_logarithms qM_forms qM_system qM_solved qM_wrong qM_rights qM_mixer : Nat) (M_craft M_data M_waiting M_master M_counts M_sent M_state : Value) (sz : Nat) (M_thrown : Int32) (M_depth : Int32) (M_fill : Int32) (M_half : Int32) (M_pattern : Int32) (M_length : Int32) (M_rowSize : Int32) (M_differ : Int32) (M_blocks : Int32) (M_lastMaster : Int32) (M_begins : Nat → Int32) (M_firsts : Nat → Int32) (M_seconds : Nat → Int32) (M_least : Nat → Int32) (M_places : Nat → Int32) (M_line : Nat → Int32) (M_row : Nat → Int32) (M_marks : Nat → Int32) (M_wrongs : Nat → Int32) (M_tells : Nat → Int32) (M_bytes : Nat → Int32) (M_lastCounts : Nat → Int32) (M_elements : Nat → Int32) (M_word : Nat → Int32) (M_powers : Nat → Int32) (M_values : Nat → Int32) (M_logarithms : Nat → Int32) (M_forms : Nat → Int32) (M_system : Nat → Int32) (M_solved : Nat → Int32) (M_wrong : Nat → Int32) (M_rights : Nat → Int32) (M_mixer : Nat → Int32) (x1 : Int32) (rr : Int32) (M_thrown' : Int32) (M_rowSize' : Int32) (M_differ' : Int32) (M_blocks' : Int32) (M_lastMaster' : Int32) (M_least' : Nat → Int32) (M_places' : Nat → Int32) (M_row' : Nat → Int32) (M_marks' : Nat → Int32) (M_wrongs' : Nat → Int32) (M_tells' : Nat → Int32) (M_bytes' : Nat → Int32) (M_lastCounts' : Nat → Int32) (M_word' : Nat → Int32) (M_values' : Nat → Int32) (M_system' : Nat → Int32) (M_solved' : Nat → Int32) (M_wrong' : Nat → Int32) (M_rights' : Nat → Int32) (hm : f_Mo_receive M_thrown M_depth M_fill M_half M_pattern M_length M_rowSize M_differ M_blocks M_lastMaster M_begins M_firsts M_seconds M_least M_places M_line M_row M_marks M_wrongs M_tells M_bytes M_lastCounts M_elements M_word M_powers M_values M_logarithms M_forms M_system M_solved M_wrong M_rights M_mixer x1 = some (rr, M_thrown', M_rowSize', M_differ', M_blocks', M_lastMaster', M_least', M_places', M_row', M_marks', M_wrongs', M_tells', M_bytes', M_lastCounts', M_word', M_values', M_system', M_solved', M_wrong', M_rights')) : CTi l y_Mo_receive b_Mo_receive 5 (some .int) (RM 5 126) D cI cJ tt [.ref qM, .int x1] (w_Mo_receive cI cJ qM qM_begins qM_firsts qM_seconds qM_least qM_places qM_line qM_row qM_marks qM_wrongs qM_tells qM_bytes qM_lastCounts qM_elements qM_word qM_powers qM_values qM_logarithms qM_forms qM_system qM_solved qM_wrong qM_rights qM_mixer M_craft M_data M_waiting M_master M_counts M_sent M_state M_thrown M_depth M_fill M_half M_pattern M_length M_rowSize M_differ M_blocks M_lastMaster M_begins M_firsts M_seconds M_least M_places M_line M_row M_marks M_wrongs M_tells M_bytes M_lastCounts M_elements M_word M_powers M_values M_logarithms M_forms M_system M_solved M_wrong M_rights M_mixer) (w_Mo_receive cI cJ qM qM_begins qM_firsts qM_seconds qM_least qM_places qM_line qM_row qM_marks qM_wrongs qM_tells qM_bytes qM_lastCounts qM_elements qM_word qM_powers qM_values qM_logarithms qM_forms qM_system qM_solved qM_wrong qM_rights qM_mixer M_craft M_data M_waiting M_master M_counts M_sent M_state M_thrown' M_depth M_fill M_half M_pattern M_length M_rowSize' M_differ' M_blocks' M_lastMaster' M_begins M_firsts M_seconds M_least' M_places' M_line M_row' M_marks' M_wrongs' M_tells' M_bytes' M_lastCounts' M_elements M_word' M_powers M_values' M_logarithms M_forms M_system' M_solved' M_wrong' M_rights' M_mixer) sz rr := by
  refine Met.ofW (cc := b_Mo_receive) (maxL := 5) (ret := (some .int)) (by decide) rfl ?_
  intro p e s m args below meth c s₁ B hml hv
  obtain ⟨hargs, hsz, hP, hK, hD0, hE⟩ := hv
  have hx := B.exec
  have hb := B.bytes
  have hr := B.returns
  have hts : ∀ w ∈ TB, w.before args s = true := z_mV s (atoms_spec (ws := WD y_Mo_receive b_Mo_receive 5 (some .int)) B.pre)
  have hown : s.vm.findClass "DeepChannelModel" = some m.cls := findClass_of_methodNamed B.named
  have hlocks := B.notSynchronized
  subst hsz
  have hD := hD0.self (sz := s.heap.size)
  generalize hAe : va_A (w_Mo_receive cI cJ qM qM_begins qM_firsts qM_seconds qM_least qM_places qM_line qM_row qM_marks qM_wrongs qM_tells qM_bytes qM_lastCounts qM_elements qM_word qM_powers qM_values qM_logarithms qM_forms qM_system qM_solved qM_wrong qM_rights qM_mixer M_craft M_data M_waiting M_master M_counts M_sent M_state M_thrown M_depth M_fill M_half M_pattern M_length M_rowSize M_differ M_blocks M_lastMaster M_begins M_firsts M_seconds M_least M_places M_line M_row M_marks M_wrongs M_tells M_bytes M_lastCounts M_elements M_word M_powers M_values M_logarithms M_forms M_system M_solved M_wrong M_rights M_mixer) s.heap.size = A at hD hE ⊢
  have hA : ∀ q : Nat, s.heap.size ≤ q → A q := fun q h => by rw [← hAe]; exact Or.inr h
  have hS : va_S A s.heap s.heap [] := va_S.rf
  refine z_entry (vs := [.ref qM, .int x1]) hargs (Nat.le_of_ble_eq_true rfl) (fun ls hl => ?_)
  have hl : lv_has ls 5 [(0, .ref qM), (1, .int x1)] := hl
  show W p l e (RM 5 126) s m args below meth c s.heap [] 0 0 _ _
  refine z_qi (fun Q0 hQ => ?_)
  have F : CallFix p m c b_Mo_receive 5 s args TB "DeepChannelModel" := ⟨hx, hb, hml, hown, hts⟩
  have T67 : ∀ (n67 : Nat) (x1 : Int32) (x2 : Int32) (x3 : Int32) (M_thrown : Int32) (M_rowSize : Int32) (M_differ : Int32) (M_blocks : Int32) (M_lastMaster : Int32) (M_least : Nat → Int32) (M_places : Nat → Int32) (M_row : Nat → Int32) (M_marks : Nat → Int32) (M_wrongs : Nat → Int32) (M_tells : Nat → Int32) (M_bytes : Nat → Int32) (M_lastCounts : Nat → Int32) (M_word : Nat → Int32) (M_values : Nat → Int32) (M_system : Nat → Int32) (M_solved : Nat → Int32) (M_wrong : Nat → Int32) (M_rights : Nat → Int32), f_Mo_receive_67 M_depth M_fill M_half M_elements M_powers M_logarithms M_forms M_mixer n67 x1 x2 x3 M_thrown M_rowSize M_differ M_blocks M_lastMaster M_least M_places M_row M_marks M_wrongs M_tells M_bytes M_lastCounts M_word M_values M_system M_solved M_wrong M_rights = some (rr, M_thrown', M_rowSize', M_differ', M_blocks', M_lastMaster', M_least', M_places', M_row', M_marks', M_wrongs', M_tells', M_bytes', M_lastCounts', M_word', M_values', M_system', M_solved', M_wrong', M_rights') → ∀ (H : Heap) (locs : List Loc), va_P D classes (w_Mo_receive cI cJ qM qM_begins qM_firsts qM_seconds qM_least qM_places qM_line qM_row qM_marks qM_wrongs qM_tells qM_bytes qM_lastCounts qM_elements qM_word qM_powers qM_values qM_logarithms qM_forms qM_system qM_solved qM_wrong qM_rights qM_mixer M_craft M_data M_waiting M_master M_counts M_sent M_state M_thrown M_depth M_fill M_half M_pattern M_length M_rowSize M_differ M_blocks M_lastMaster M_begins M_firsts M_seconds M_least M_places M_line M_row M_marks M_wrongs M_tells M_bytes M_lastCounts M_elements M_word M_powers M_values M_logarithms M_forms M_system M_solved M_wrong M_rights M_mixer) H → va_D A (w_Mo_receive cI cJ qM qM_begins qM_firsts qM_seconds qM_least qM_places qM_line qM_row qM_marks qM_wrongs qM_tells qM_bytes qM_lastCounts qM_elements qM_word qM_powers qM_values qM_logarithms qM_forms qM_system qM_solved qM_wrong qM_rights qM_mixer M_craft M_data M_waiting M_master M_counts M_sent M_state M_thrown M_depth M_fill M_half M_pattern M_length M_rowSize M_differ M_blocks M_lastMaster M_begins M_firsts M_seconds M_least M_places M_line M_row M_marks M_wrongs M_tells M_bytes M_lastCounts M_elements M_word M_powers M_values M_logarithms M_forms M_system M_solved M_wrong M_rights M_mixer) → va_S A s.heap H locs → ∀ (ls : Array Slot), lv_has ls 5 [(0, .ref qM), (1, .int x1), (2, .int x2), (3, .int x3)] → W p l e (RM 5 126) s m args below meth c H locs 0 0 Q0 (F0 m 67 ls []) := by
    intro n67
    induction n67 with
    | zero => intro x1 x2 x3 M_thrown M_rowSize M_differ M_blocks M_lastMaster M_least M_places M_row M_marks M_wrongs M_tells M_bytes M_lastCounts M_word M_values M_system M_solved M_wrong M_rights hm; cases hm
    | succ n67 ih67 =>
      have T147 : ∀ (x1 : Int32) (x2 : Int32) (x3 : Int32) (M_thrown : Int32) (M_rowSize : Int32) (M_differ : Int32) (M_blocks : Int32) (M_lastMaster : Int32) (M_least : Nat → Int32) (M_places : Nat → Int32) (M_row : Nat → Int32) (M_marks : Nat → Int32) (M_wrongs : Nat → Int32) (M_tells : Nat → Int32) (M_bytes : Nat → Int32) (M_lastCounts : Nat → Int32) (M_word : Nat → Int32) (M_values : Nat → Int32) (M_system : Nat → Int32) (M_solved : Nat → Int32) (M_wrong : Nat → Int32) (M_rights : Nat → Int32), f_Mo_receive_147 (f_Mo_receive_67 M_depth M_fill M_half M_elements M_powers M_logarithms M_forms M_mixer n67) x1 x2 x3 M_thrown M_rowSize M_differ M_blocks M_lastMaster M_least M_places M_row M_marks M_wrongs M_tells M_bytes M_lastCounts M_word M_values M_system M_solved M_wrong M_rights = some (rr, M_thrown', M_rowSize', M_differ', M_blocks', M_lastMaster', M_least', M_places', M_row', M_marks', M_wrongs', M_tells', M_bytes', M_lastCounts', M_word', M_values', M_system', M_solved', M_wrong', M_rights') → ∀ (H : Heap) (locs : List Loc), va_P D classes (w_Mo_receive cI cJ qM qM_begins qM_firsts qM_seconds qM_least qM_places qM_line qM_row qM_marks qM_wrongs qM_tells qM_bytes qM_lastCounts qM_elements qM_word qM_powers qM_values qM_logarithms qM_forms qM_system qM_solved qM_wrong qM_rights qM_mixer M_craft M_data M_waiting M_master M_counts M_sent M_state M_thrown M_depth M_fill M_half M_pattern M_length M_rowSize M_differ M_blocks M_lastMaster M_begins M_firsts M_seconds M_least M_places M_line M_row M_marks M_wrongs M_tells M_bytes M_lastCounts M_elements M_word M_powers M_values M_logarithms M_forms M_system M_solved M_wrong M_rights M_mixer) H → va_D A (w_Mo_receive cI cJ qM qM_begins qM_firsts qM_seconds qM_least qM_places qM_line qM_row qM_marks qM_wrongs qM_tells qM_bytes qM_lastCounts qM_elements qM_word qM_powers qM_values qM_logarithms qM_forms qM_system qM_solved qM_wrong qM_rights qM_mixer M_craft M_data M_waiting M_master M_counts M_sent M_state M_thrown M_depth M_fill M_half M_pattern M_length M_rowSize M_differ M_blocks M_lastMaster M_begins M_firsts M_seconds M_least M_places M_line M_row M_marks M_wrongs M_tells M_bytes M_lastCounts M_elements M_word M_powers M_values M_logarithms M_forms M_system M_solved M_wrong M_rights M_mixer) → va_S A s.heap H locs → ∀ (ls : Array Slot), lv_has ls 5 [(0, .ref qM), (1, .int x1), (2, .int x2), (3, .int x3)] → W p l e (RM 5 126) s m args below meth c H locs 0 0 Q0 (F0 m 147 ls []) := by
        intro x1 x2 x3 M_thrown M_rowSize M_differ M_blocks M_lastMaster M_least M_places M_row M_marks M_wrongs M_tells M_bytes M_lastCounts M_word M_values M_system M_solved M_wrong M_rights hm H locs hP hD hS ls hl
        unfold f_Mo_receive_147 at hm
        refine lv_goto (tgt := 67) hx hb d_Mo_receive_147 (by decide) ?_
        exact ih67 x1 x2 x3 M_thrown M_rowSize M_differ M_blocks M_lastMaster M_least M_places M_row M_marks M_wrongs M_tells M_bytes M_lastCounts M_word M_values M_system M_solved M_wrong M_rights hm _ _ hP hD hS _ (lv_sub hl [0, 1, 2, 3] rfl)
      have T140 : ∀ (x1 : Int32) (x2 : Int32) (t0 : Int32) (M_thrown : Int32) (M_rowSize : Int32) (M_differ : Int32) (M_blocks : Int32) (M_lastMaster : Int32) (M_least : Nat → Int32) (M_places : Nat → Int32) (M_row : Nat → Int32) (M_marks : Nat → Int32) (M_wrongs : Nat → Int32) (M_tells : Nat → Int32) (M_bytes : Nat → Int32) (M_lastCounts : Nat → Int32) (M_word : Nat → Int32) (M_values : Nat → Int32) (M_system : Nat → Int32) (M_solved : Nat → Int32) (M_wrong : Nat → Int32) (M_rights : Nat → Int32), f_Mo_receive_140 (f_Mo_receive_67 M_depth M_fill M_half M_elements M_powers M_logarithms M_forms M_mixer n67) x1 x2 t0 M_thrown M_rowSize M_differ M_blocks M_lastMaster M_least M_places M_row M_marks M_wrongs M_tells M_bytes M_lastCounts M_word M_values M_system M_solved M_wrong M_rights = some (rr, M_thrown', M_rowSize', M_differ', M_blocks', M_lastMaster', M_least', M_places', M_row', M_marks', M_wrongs', M_tells', M_bytes', M_lastCounts', M_word', M_values', M_system', M_solved', M_wrong', M_rights') → ∀ (H : Heap) (locs : List Loc), va_P D classes (w_Mo_receive cI cJ qM qM_begins qM_firsts qM_seconds qM_least qM_places qM_line qM_row qM_marks qM_wrongs qM_tells qM_bytes qM_lastCounts qM_elements qM_word qM_powers qM_values qM_logarithms qM_forms qM_system qM_solved qM_wrong qM_rights qM_mixer M_craft M_data M_waiting M_master M_counts M_sent M_state M_thrown M_depth M_fill M_half M_pattern M_length M_rowSize M_differ M_blocks M_lastMaster M_begins M_firsts M_seconds M_least M_places M_line M_row M_marks M_wrongs M_tells M_bytes M_lastCounts M_elements M_word M_powers M_values M_logarithms M_forms M_system M_solved M_wrong M_rights M_mixer) H → va_D A (w_Mo_receive cI cJ qM qM_begins qM_firsts qM_seconds qM_least qM_places qM_line qM_row qM_marks qM_wrongs qM_tells qM_bytes qM_lastCounts qM_elements qM_word qM_powers qM_values qM_logarithms qM_forms qM_system qM_solved qM_wrong qM_rights qM_mixer M_craft M_data M_waiting M_master M_counts M_sent M_state M_thrown M_depth M_fill M_half M_pattern M_length M_rowSize M_differ M_blocks M_lastMaster M_begins M_firsts M_seconds M_least M_places M_line M_row M_marks M_wrongs M_tells M_bytes M_lastCounts M_elements M_word M_powers M_values M_logarithms M_forms M_system M_solved M_wrong M_rights M_mixer) → va_S A s.heap H locs → ∀ (ls : Array Slot), lv_has ls 5 [(0, .ref qM), (1, .int x1), (2, .int x2)] → W p l e (RM 5 126) s m args below meth c H locs 0 0 Q0 (F0 m 140 ls [.int t0]) := by
        intro x1 x2 t0 M_thrown M_rowSize M_differ M_blocks M_lastMaster M_least M_places M_row M_marks M_wrongs M_tells M_bytes M_lastCounts M_word M_values M_system M_solved M_wrong M_rights hm H locs hP hD hS ls hl
        unfold f_Mo_receive_140 at hm
        refine lv_istore_n (lv' := [(3, .int t0), (0, .ref qM), (1, .int x1), (2, .int x2)]) hx hb d_Mo_receive_140 rfl hl (by decide) rfl (fun ls hl => ?_)
        refine lv_goto (tgt := 147) hx hb d_Mo_receive_141 (by decide) ?_
        exact T147 x1 x2 t0 M_thrown M_rowSize M_differ M_blocks M_lastMaster M_least M_places M_row M_marks M_wrongs M_tells M_bytes M_lastCounts M_word M_values M_system M_solved M_wrong M_rights hm _ _ hP hD hS _ (lv_sub hl [1, 2, 3, 0] rfl)
      have T112 : ∀ (x1 : Int32) (x2 : Int32) (x4 : Int32) (M_thrown : Int32) (M_rowSize : Int32) (M_differ : Int32) (M_blocks : Int32) (M_lastMaster : Int32) (M_least : Nat → Int32) (M_places : Nat → Int32) (M_row : Nat → Int32) (M_marks : Nat → Int32) (M_wrongs : Nat → Int32) (M_tells : Nat → Int32) (M_bytes : Nat → Int32) (M_lastCounts : Nat → Int32) (M_word : Nat → Int32) (M_values : Nat → Int32) (M_system : Nat → Int32) (M_solved : Nat → Int32) (M_wrong : Nat → Int32) (M_rights : Nat → Int32), f_Mo_receive_112 M_depth M_fill M_half M_elements M_powers M_logarithms M_forms M_mixer (f_Mo_receive_67 M_depth M_fill M_half M_elements M_powers M_logarithms M_forms M_mixer n67) x1 x2 x4 M_thrown M_rowSize M_differ M_blocks M_lastMaster M_least M_places M_row M_marks M_wrongs M_tells M_bytes M_lastCounts M_word M_values M_system M_solved M_wrong M_rights = some (rr, M_thrown', M_rowSize', M_differ', M_blocks', M_lastMaster', M_least', M_places', M_row', M_marks', M_wrongs', M_tells', M_bytes', M_lastCounts', M_word', M_values', M_system', M_solved', M_wrong', M_rights') → ∀ (H : Heap) (locs : List Loc), va_P D classes (w_Mo_receive cI cJ qM qM_begins qM_firsts qM_seconds qM_least qM_places qM_line qM_row qM_marks qM_wrongs qM_tells qM_bytes qM_lastCounts qM_elements qM_word qM_powers qM_values qM_logarithms qM_forms qM_system qM_solved qM_wrong qM_rights qM_mixer M_craft M_data M_waiting M_master M_counts M_sent M_state M_thrown M_depth M_fill M_half M_pattern M_length M_rowSize M_differ M_blocks M_lastMaster M_begins M_firsts M_seconds M_least M_places M_line M_row M_marks M_wrongs M_tells M_bytes M_lastCounts M_elements M_word M_powers M_values M_logarithms M_forms M_system M_solved M_wrong M_rights M_mixer) H → va_D A (w_Mo_receive cI cJ qM qM_begins qM_firsts qM_seconds qM_least qM_places qM_line qM_row qM_marks qM_wrongs qM_tells qM_bytes qM_lastCounts qM_elements qM_word qM_powers qM_values qM_logarithms qM_forms qM_system qM_solved qM_wrong qM_rights qM_mixer M_craft M_data M_waiting M_master M_counts M_sent M_state M_thrown M_depth M_fill M_half M_pattern M_length M_rowSize M_differ M_blocks M_lastMaster M_begins M_firsts M_seconds M_least M_places M_line M_row M_marks M_wrongs M_tells M_bytes M_lastCounts M_elements M_word M_powers M_values M_logarithms M_forms M_system M_solved M_wrong M_rights M_mixer) → va_S A s.heap H locs → ∀ (ls : Array Slot), lv_has ls 5 [(0, .ref qM), (1, .int x1), (2, .int x2), (4, .int x4)] → W p l e (RM 5 126) s m args below meth c H locs 0 0 Q0 (F0 m 112 ls []) := by
        intro x1 x2 x4 M_thrown M_rowSize M_differ M_blocks M_lastMaster M_least M_places M_row M_marks M_wrongs M_tells M_bytes M_lastCounts M_word M_values M_system M_solved M_wrong M_rights hm H locs hP hD hS ls hl
        unfold f_Mo_receive_112 at hm
        refine lv_aload_n hx hb d_Mo_receive_112 rfl (lv_at hl 0 rfl) ?_
        refine lv_iload_n hx hb d_Mo_receive_113 rfl (lv_at hl 2 rfl) ?_
        obtain ⟨⟨v1, v2, g3, g4, g5, g6, g7, g8, g9, g10, g11, g12, g13⟩, hu, hm⟩ := bd_el hm
        replace hm := nm_13 hm
        refine z_cVv (wc := w_Mo_take cI cJ qM qM_marks qM_row qM_wrongs qM_tells qM_bytes qM_lastCounts qM_elements qM_word qM_powers qM_values qM_logarithms qM_forms qM_system qM_solved qM_wrong qM_rights qM_mixer (.int M_thrown) (.int M_pattern) M_craft (.ref qM_begins) (.ref qM_firsts) (.ref qM_seconds) M_data M_waiting M_master M_counts (.ref qM_line) (.int M_length) M_sent M_state (.ref qM_places) (.ref qM_least) (.int M_rowSize) (.int M_differ) M_depth M_fill M_half M_blocks M_lastMaster M_marks M_row M_wrongs M_tells M_bytes M_lastCounts M_elements M_word M_powers M_values M_logarithms M_forms M_system M_solved M_wrong M_rights M_mixer) (wc' := w_Mo_take cI cJ qM qM_marks qM_row qM_wrongs qM_tells qM_bytes qM_lastCounts qM_elements qM_word qM_powers qM_values qM_logarithms qM_forms qM_system qM_solved qM_wrong qM_rights qM_mixer (.int M_thrown) (.int M_pattern) M_craft (.ref qM_begins) (.ref qM_firsts) (.ref qM_seconds) M_data M_waiting M_master M_counts (.ref qM_line) (.int M_length) M_sent M_state (.ref qM_places) (.ref qM_least) (.int M_rowSize) (.int M_differ) M_depth M_fill M_half v1 v2 g3 M_row g4 g5 g6 g7 M_elements g8 M_powers g9 M_logarithms M_forms g10 g11 g12 g13 M_mixer) (wr := [(qM_begins, .inl (cI, 6, .inl M_begins)), (qM_firsts, .inl (cI, 18, .inl M_firsts)), (qM_seconds, .inl (cI, 18, .inl M_seconds)), (qM_least, .inl (cI, 230464, .inl M_least)), (qM_places, .inl (cI, 3600, .inl M_places)), (qM_line, .inl (cI, 4096, .inl M_line))]) (As := [.int x2]) (rest := []) (c_Mo_take l D cI cJ tt qM qM_marks qM_row qM_wrongs qM_tells qM_bytes qM_lastCounts qM_elements qM_word qM_powers qM_values qM_logarithms qM_forms qM_system qM_solved qM_wrong qM_rights qM_mixer (.int M_thrown) (.int M_pattern) M_craft (.ref qM_begins) (.ref qM_firsts) (.ref qM_seconds) M_data M_waiting M_master M_counts (.ref qM_line) (.int M_length) M_sent M_state (.ref qM_places) (.ref qM_least) (.int M_rowSize) (.int M_differ) _ M_depth M_fill M_half M_blocks M_lastMaster M_marks M_row M_wrongs M_tells M_bytes M_lastCounts M_elements M_word M_powers M_values M_logarithms M_forms M_system M_solved M_wrong M_rights M_mixer x2 v1 v2 g3 g4 g5 g6 g7 g8 g9 g10 g11 g12 g13 hu) F ok_Mo_take rfl k_1147 hK hE hP hD hS hA [0, 8, 7, 9, 10, 11, 12, 13, 14, 15, 16, 17, 18, 19, 20, 21, 22, 23] [1, 2, 3, 4, 5, 6] rfl rfl (by decide) (by decide) (by decide) 0 rfl rfl rfl ⟨rfl, rfl, Nat.le_of_ble_eq_true rfl, Nat.le_of_ble_eq_true rfl⟩ ⟨Nat.zero_le _, Nat.zero_le _⟩ rfl hl.1 rfl (Nat.le_of_ble_eq_true rfl) d_Mo_receive_114 (fun H locs hP hD hS => ?_)
        have hP : va_P D classes (w_Mo_receive cI cJ qM qM_begins qM_firsts qM_seconds qM_least qM_places qM_line qM_row qM_marks qM_wrongs qM_tells qM_bytes qM_lastCounts qM_elements qM_word qM_powers qM_values qM_logarithms qM_forms qM_system qM_solved qM_wrong qM_rights qM_mixer M_craft M_data M_waiting M_master M_counts M_sent M_state M_thrown M_depth M_fill M_half M_pattern M_length M_rowSize M_differ v1 v2 M_begins M_firsts M_seconds M_least M_places M_line M_row g3 g4 g5 g6 g7 M_elements g8 M_powers g9 M_logarithms M_forms g10 g11 g12 g13 M_mixer) H := hP.sub [6, 0, 1, 2, 3, 4, 5, 8, 7, 9, 10, 11, 12, 13, 14, 15, 16, 17, 18, 19, 20, 21, 22, 23] rfl
        have hD : va_D A (w_Mo_receive cI cJ qM qM_begins qM_firsts qM_seconds qM_least qM_places qM_line qM_row qM_marks qM_wrongs qM_tells qM_bytes qM_lastCounts qM_elements qM_word qM_powers qM_values qM_logarithms qM_forms qM_system qM_solved qM_wrong qM_rights qM_mixer M_craft M_data M_waiting M_master M_counts M_sent M_state M_thrown M_depth M_fill M_half M_pattern M_length M_rowSize M_differ v1 v2 M_begins M_firsts M_seconds M_least M_places M_line M_row g3 g4 g5 g6 g7 M_elements g8 M_powers g9 M_logarithms M_forms g10 g11 g12 g13 M_mixer) := hD.sub [6, 0, 1, 2, 3, 4, 5, 8, 7, 9, 10, 11, 12, 13, 14, 15, 16, 17, 18, 19, 20, 21, 22, 23] (by decide) rfl
        refine lv_iload_n hx hb d_Mo_receive_117 rfl (lv_at hl 2 rfl) ?_
        refine lv_bipush (v := (32 : Int32)) hx hb d_Mo_receive_118 (by decide) ?_
        refine lv_iadd hx hb d_Mo_receive_120 ?_
        refine lv_bipush (v := (8 : Int32)) hx hb d_Mo_receive_121 (by decide) ?_
        refine lv_aload_n hx hb d_Mo_receive_123 rfl (lv_at hl 0 rfl) ?_
        obtain ⟨r15, hu, hm⟩ := bd_el hm
        replace hm := nm_1 hm
        refine z_cVi (wc := w_Mo_blockSize cI cJ qM (.int M_thrown) (.int M_half) (.int M_pattern) M_craft (.ref qM_begins) (.ref qM_firsts) (.ref qM_seconds) (.ref qM_powers) (.ref qM_logarithms) (.ref qM_forms) (.ref qM_elements) (.ref qM_mixer) M_data M_waiting M_master M_counts (.ref qM_line) (.int M_length) M_sent M_state (.ref qM_places) (.ref qM_least) (.ref qM_row) (.int M_rowSize) (.int M_differ) (.int v1) (.ref qM_marks) (.ref qM_wrongs) (.ref qM_bytes) (.ref qM_rights) (.ref qM_tells) (.int v2) (.ref qM_lastCounts) (.ref qM_word) (.ref qM_values) (.ref qM_system) (.ref qM_solved) (.ref qM_wrong) M_depth M_fill) (wc' := w_Mo_blockSize cI cJ qM (.int M_thrown) (.int M_half) (.int M_pattern) M_craft (.ref qM_begins) (.ref qM_firsts) (.ref qM_seconds) (.ref qM_powers) (.ref qM_logarithms) (.ref qM_forms) (.ref qM_elements) (.ref qM_mixer) M_data M_waiting M_master M_counts (.ref qM_line) (.int M_length) M_sent M_state (.ref qM_places) (.ref qM_least) (.ref qM_row) (.int M_rowSize) (.int M_differ) (.int v1) (.ref qM_marks) (.ref qM_wrongs) (.ref qM_bytes) (.ref qM_rights) (.ref qM_tells) (.int v2) (.ref qM_lastCounts) (.ref qM_word) (.ref qM_values) (.ref qM_system) (.ref qM_solved) (.ref qM_wrong) M_depth M_fill) (wr := [(qM_begins, .inl (cI, 6, .inl M_begins)), (qM_firsts, .inl (cI, 18, .inl M_firsts)), (qM_seconds, .inl (cI, 18, .inl M_seconds)), (qM_least, .inl (cI, 230464, .inl M_least)), (qM_places, .inl (cI, 3600, .inl M_places)), (qM_line, .inl (cI, 4096, .inl M_line)), (qM_row, .inl (cI, 3600, .inl M_row)), (qM_marks, .inl (cI, 16, .inl g3)), (qM_wrongs, .inl (cI, 16, .inl g4)), (qM_tells, .inl (cI, 96, .inl g5)), (qM_bytes, .inl (cI, 4000, .inl g6)), (qM_lastCounts, .inl (cI, 8, .inl g7)), (qM_elements, .inl (cI, 256, .inl M_elements)), (qM_word, .inl (cI, 255, .inl g8)), (qM_powers, .inl (cI, 255, .inl M_powers)), (qM_values, .inl (cI, 32, .inl g9)), (qM_logarithms, .inl (cI, 256, .inl M_logarithms)), (qM_forms, .inl (cI, 256, .inl M_forms)), (qM_system, .inl (cI, 1056, .inl g10)), (qM_solved, .inl (cI, 32, .inl g11)), (qM_wrong, .inl (cI, 16, .inl g12)), (qM_rights, .inl (cI, 128, .inl g13)), (qM_mixer, .inl (cI, 250, .inl M_mixer))]) (As := []) (rest := [.int (8 : Int32), .int (x2 + (32 : Int32))]) (c_Mo_blockSize l D cI cJ tt qM (.int M_thrown) (.int M_half) (.int M_pattern) M_craft (.ref qM_begins) (.ref qM_firsts) (.ref qM_seconds) (.ref qM_powers) (.ref qM_logarithms) (.ref qM_forms) (.ref qM_elements) (.ref qM_mixer) M_data M_waiting M_master M_counts (.ref qM_line) (.int M_length) M_sent M_state (.ref qM_places) (.ref qM_least) (.ref qM_row) (.int M_rowSize) (.int M_differ) (.int v1) (.ref qM_marks) (.ref qM_wrongs) (.ref qM_bytes) (.ref qM_rights) (.ref qM_tells) (.int v2) (.ref qM_lastCounts) (.ref qM_word) (.ref qM_values) (.ref qM_system) (.ref qM_solved) (.ref qM_wrong) _ M_depth M_fill r15 hu) F ok_Mo_blockSize rfl k_1034 hK hE hP hD hS hA [0] [1, 2, 3, 4, 5, 6, 7, 8, 9, 10, 11, 12, 13, 14, 15, 16, 17, 18, 19, 20, 21, 22, 23] rfl rfl (by decide) (by decide) (by decide) 0 rfl rfl rfl ⟨rfl, rfl, Nat.le_of_ble_eq_true rfl, Nat.le_of_ble_eq_true rfl⟩ ⟨Nat.zero_le _, Nat.zero_le _⟩ rfl hl.1 rfl (Nat.le_of_ble_eq_true rfl) d_Mo_receive_124 (fun H locs hP hD hS => ?_)
        have hP : va_P D classes (w_Mo_receive cI cJ qM qM_begins qM_firsts qM_seconds qM_least qM_places qM_line qM_row qM_marks qM_wrongs qM_tells qM_bytes qM_lastCounts qM_elements qM_word qM_powers qM_values qM_logarithms qM_forms qM_system qM_solved qM_wrong qM_rights qM_mixer M_craft M_data M_waiting M_master M_counts M_sent M_state M_thrown M_depth M_fill M_half M_pattern M_length M_rowSize M_differ v1 v2 M_begins M_firsts M_seconds M_least M_places M_line M_row g3 g4 g5 g6 g7 M_elements g8 M_powers g9 M_logarithms M_forms g10 g11 g12 g13 M_mixer) H := hP.sub [23, 0, 1, 2, 3, 4, 5, 6, 7, 8, 9, 10, 11, 12, 13, 14, 15, 16, 17, 18, 19, 20, 21, 22] rfl
        have hD : va_D A (w_Mo_receive cI cJ qM qM_begins qM_firsts qM_seconds qM_least qM_places qM_line qM_row qM_marks qM_wrongs qM_tells qM_bytes qM_lastCounts qM_elements qM_word qM_powers qM_values qM_logarithms qM_forms qM_system qM_solved qM_wrong qM_rights qM_mixer M_craft M_data M_waiting M_master M_counts M_sent M_state M_thrown M_depth M_fill M_half M_pattern M_length M_rowSize M_differ v1 v2 M_begins M_firsts M_seconds M_least M_places M_line M_row g3 g4 g5 g6 g7 M_elements g8 M_powers g9 M_logarithms M_forms g10 g11 g12 g13 M_mixer) := hD.sub [23, 0, 1, 2, 3, 4, 5, 6, 7, 8, 9, 10, 11, 12, 13, 14, 15, 16, 17, 18, 19, 20, 21, 22] (by decide) rfl
        refine lv_imul hx hb d_Mo_receive_127 ?_
        refine lv_iadd hx hb d_Mo_receive_128 ?_
        refine z_nmi hm (fun v17 hm => ?_)
        refine lv_istore_n (lv' := [(2, .int v17), (0, .ref qM), (1, .int x1), (4, .int x4)]) hx hb d_Mo_receive_129 rfl hl (by decide) rfl (fun ls hl => ?_)
        refine lv_iload hx hb d_Mo_receive_130 (lv_at hl 3 rfl) ?_
        refine z_if hm (lv_if_eq (tgt := 139) hx hb d_Mo_receive_132 (by decide)) (fun hm => ?_) (fun hm => ?_)
        · refine lv_iconst (v := (-1 : Int32)) hx hb d_Mo_receive_139 (by decide) ?_
          exact T140 x1 v17 (-1 : Int32) M_thrown M_rowSize M_differ v1 v2 M_least M_places M_row g3 g4 g5 g6 g7 g8 g9 g10 g11 g12 g13 hm _ _ hP hD hS _ (lv_sub hl [1, 2, 0] rfl)
        · refine lv_iload_n hx hb d_Mo_receive_135 rfl (lv_at hl 0 rfl) ?_
          refine lv_goto (tgt := 140) hx hb d_Mo_receive_136 (by decide) ?_
          exact T140 x1 v17 v17 M_thrown M_rowSize M_differ v1 v2 M_least M_places M_row g3 g4 g5 g6 g7 g8 g9 g10 g11 g12 g13 hm _ _ hP hD hS _ (lv_sub hl [1, 2, 0] rfl)
      have T100 : ∀ (x1 : Int32) (x2 : Int32) (x3 : Int32) (t0 : Int32) (M_thrown : Int32) (M_rowSize : Int32) (M_differ : Int32) (M_blocks : Int32) (M_lastMaster : Int32) (M_least : Nat → Int32) (M_places : Nat → Int32) (M_row : Nat → Int32) (M_marks : Nat → Int32) (M_wrongs : Nat → Int32) (M_tells : Nat → Int32) (M_bytes : Nat → Int32) (M_lastCounts : Nat → Int32) (M_word : Nat → Int32) (M_values : Nat → Int32) (M_system : Nat → Int32) (M_solved : Nat → Int32) (M_wrong : Nat → Int32) (M_rights : Nat → Int32), f_Mo_receive_100 M_depth M_fill M_half M_elements M_powers M_logarithms M_forms M_mixer (f_Mo_receive_67 M_depth M_fill M_half M_elements M_powers M_logarithms M_forms M_mixer n67) x1 x2 x3 t0 M_thrown M_rowSize M_differ M_blocks M_lastMaster M_least M_places M_row M_marks M_wrongs M_tells M_bytes M_lastCounts M_word M_values M_system M_solved M_wrong M_rights = some (rr, M_thrown', M_rowSize', M_differ', M_blocks', M_lastMaster', M_least', M_places', M_row', M_marks', M_wrongs', M_tells', M_bytes', M_lastCounts', M_word', M_values', M_system', M_solved', M_wrong', M_rights') → ∀ (H : Heap) (locs : List Loc), va_P D classes (w_Mo_receive cI cJ qM qM_begins qM_firsts qM_seconds qM_least qM_places qM_line qM_row qM_marks qM_wrongs qM_tells qM_bytes qM_lastCounts qM_elements qM_word qM_powers qM_values qM_logarithms qM_forms qM_system qM_solved qM_wrong qM_rights qM_mixer M_craft M_data M_waiting M_master M_counts M_sent M_state M_thrown M_depth M_fill M_half M_pattern M_length M_rowSize M_differ M_blocks M_lastMaster M_begins M_firsts M_seconds M_least M_places M_line M_row M_marks M_wrongs M_tells M_bytes M_lastCounts M_elements M_word M_powers M_values M_logarithms M_forms M_system M_solved M_wrong M_rights M_mixer) H → va_D A (w_Mo_receive cI cJ qM qM_begins qM_firsts qM_seconds qM_least qM_places qM_line qM_row qM_marks qM_wrongs qM_tells qM_bytes qM_lastCounts qM_elements qM_word qM_powers qM_values qM_logarithms qM_forms qM_system qM_solved qM_wrong qM_rights qM_mixer M_craft M_data M_waiting M_master M_counts M_sent M_state M_thrown M_depth M_fill M_half M_pattern M_length M_rowSize M_differ M_blocks M_lastMaster M_begins M_firsts M_seconds M_least M_places M_line M_row M_marks M_wrongs M_tells M_bytes M_lastCounts M_elements M_word M_powers M_values M_logarithms M_forms M_system M_solved M_wrong M_rights M_mixer) → va_S A s.heap H locs → ∀ (ls : Array Slot), lv_has ls 5 [(0, .ref qM), (1, .int x1), (2, .int x2), (3, .int x3)] → W p l e (RM 5 126) s m args below meth c H locs 0 0 Q0 (F0 m 100 ls [.int t0]) := by
        intro x1 x2 x3 t0 M_thrown M_rowSize M_differ M_blocks M_lastMaster M_least M_places M_row M_marks M_wrongs M_tells M_bytes M_lastCounts M_word M_values M_system M_solved M_wrong M_rights hm H locs hP hD hS ls hl
        unfold f_Mo_receive_100 at hm
        refine lv_istore (lv' := [(4, .int t0), (0, .ref qM), (1, .int x1), (2, .int x2), (3, .int x3)]) hx hb d_Mo_receive_100 hl (by decide) rfl (fun ls hl => ?_)
        refine lv_iload hx hb d_Mo_receive_102 (lv_at hl 0 rfl) ?_
        refine z_ifn hm (lv_if_ne (tgt := 112) hx hb d_Mo_receive_104 (by decide)) (fun hm => ?_) (fun hm => ?_)
        · refine lv_iload_n hx hb d_Mo_receive_107 rfl (lv_at hl 4 rfl) ?_
          refine lv_iload_n hx hb d_Mo_receive_108 rfl (lv_at hl 3 rfl) ?_
          refine z_ifn hm (lv_icmp_ne (tgt := 144) hx hb d_Mo_receive_109 (by decide)) (fun hm => ?_) (fun hm => ?_)
          · exact T112 x1 x2 t0 M_thrown M_rowSize M_differ M_blocks M_lastMaster M_least M_places M_row M_marks M_wrongs M_tells M_bytes M_lastCounts M_word M_values M_system M_solved M_wrong M_rights hm _ _ hP hD hS _ (lv_sub hl [1, 2, 3, 0] rfl)
          · obtain ⟨v18, ev, hm⟩ := nm_el hm
            refine lv_iinc (v := v18) (lv' := [(2, .int v18), (4, .int t0), (0, .ref qM), (1, .int x1), (3, .int x3)]) hx hb d_Mo_receive_144 hl (k := 3) rfl (by rw [ev]; rfl) (by decide) rfl (fun ls hl => ?_)
            exact T147 x1 v18 x3 M_thrown M_rowSize M_differ M_blocks M_lastMaster M_least M_places M_row M_marks M_wrongs M_tells M_bytes M_lastCounts M_word M_values M_system M_solved M_wrong M_rights hm _ _ hP hD hS _ (lv_sub hl [2, 3, 0, 4] rfl)
        · exact T112 x1 x2 t0 M_thrown M_rowSize M_differ M_blocks M_lastMaster M_least M_places M_row M_marks M_wrongs M_tells M_bytes M_lastCounts M_word M_values M_system M_solved M_wrong M_rights hm _ _ hP hD hS _ (lv_sub hl [1, 2, 3, 0] rfl)
      intro x1 x2 x3 M_thrown M_rowSize M_differ M_blocks M_lastMaster M_least M_places M_row M_marks M_wrongs M_tells M_bytes M_lastCounts M_word M_values M_system M_solved M_wrong M_rights hm H locs hP hD hS ls hl
      replace hm : f_Mo_receive_67_b M_depth M_fill M_half M_elements M_powers M_logarithms M_forms M_mixer (f_Mo_receive_67 M_depth M_fill M_half M_elements M_powers M_logarithms M_forms M_mixer n67) x1 x2 x3 M_thrown M_rowSize M_differ M_blocks M_lastMaster M_least M_places M_row M_marks M_wrongs M_tells M_bytes M_lastCounts M_word M_values M_system M_solved M_wrong M_rights = some (rr, M_thrown', M_rowSize', M_differ', M_blocks', M_lastMaster', M_least', M_places', M_row', M_marks', M_wrongs', M_tells', M_bytes', M_lastCounts', M_word', M_values', M_system', M_solved', M_wrong', M_rights') := hm
      unfold f_Mo_receive_67_b at hm
      refine lv_iload_n hx hb d_Mo_receive_67 rfl (lv_at hl 2 rfl) ?_
      refine lv_bipush (v := (32 : Int32)) hx hb d_Mo_receive_68 (by decide) ?_
      refine lv_iadd hx hb d_Mo_receive_70 ?_
      refine lv_bipush (v := (8 : Int32)) hx hb d_Mo_receive_71 (by decide) ?_
      refine lv_aload_n hx hb d_Mo_receive_73 rfl (lv_at hl 0 rfl) ?_
      obtain ⟨r19, hu, hm⟩ := bd_el hm
      replace hm := nm_1 hm
      refine z_cVi (wc := w_Mo_blockSize cI cJ qM (.int M_thrown) (.int M_half) (.int M_pattern) M_craft (.ref qM_begins) (.ref qM_firsts) (.ref qM_seconds) (.ref qM_powers) (.ref qM_logarithms) (.ref qM_forms) (.ref qM_elements) (.ref qM_mixer) M_data M_waiting M_master M_counts (.ref qM_line) (.int M_length) M_sent M_state (.ref qM_places) (.ref qM_least) (.ref qM_row) (.int M_rowSize) (.int M_differ) (.int M_blocks) (.ref qM_marks) (.ref qM_wrongs) (.ref qM_bytes) (.ref qM_rights) (.ref qM_tells) (.int M_lastMaster) (.ref qM_lastCounts) (.ref qM_word) (.ref qM_values) (.ref qM_system) (.ref qM_solved) (.ref qM_wrong) M_depth M_fill) (wc' := w_Mo_blockSize cI cJ qM (.int M_thrown) (.int M_half) (.int M_pattern) M_craft (.ref qM_begins) (.ref qM_firsts) (.ref qM_seconds) (.ref qM_powers) (.ref qM_logarithms) (.ref qM_forms) (.ref qM_elements) (.ref qM_mixer) M_data M_waiting M_master M_counts (.ref qM_line) (.int M_length) M_sent M_state (.ref qM_places) (.ref qM_least) (.ref qM_row) (.int M_rowSize) (.int M_differ) (.int M_blocks) (.ref qM_marks) (.ref qM_wrongs) (.ref qM_bytes) (.ref qM_rights) (.ref qM_tells) (.int M_lastMaster) (.ref qM_lastCounts) (.ref qM_word) (.ref qM_values) (.ref qM_system) (.ref qM_solved) (.ref qM_wrong) M_depth M_fill) (wr := [(qM_begins, .inl (cI, 6, .inl M_begins)), (qM_firsts, .inl (cI, 18, .inl M_firsts)), (qM_seconds, .inl (cI, 18, .inl M_seconds)), (qM_least, .inl (cI, 230464, .inl M_least)), (qM_places, .inl (cI, 3600, .inl M_places)), (qM_line, .inl (cI, 4096, .inl M_line)), (qM_row, .inl (cI, 3600, .inl M_row)), (qM_marks, .inl (cI, 16, .inl M_marks)), (qM_wrongs, .inl (cI, 16, .inl M_wrongs)), (qM_tells, .inl (cI, 96, .inl M_tells)), (qM_bytes, .inl (cI, 4000, .inl M_bytes)), (qM_lastCounts, .inl (cI, 8, .inl M_lastCounts)), (qM_elements, .inl (cI, 256, .inl M_elements)), (qM_word, .inl (cI, 255, .inl M_word)), (qM_powers, .inl (cI, 255, .inl M_powers)), (qM_values, .inl (cI, 32, .inl M_values)), (qM_logarithms, .inl (cI, 256, .inl M_logarithms)), (qM_forms, .inl (cI, 256, .inl M_forms)), (qM_system, .inl (cI, 1056, .inl M_system)), (qM_solved, .inl (cI, 32, .inl M_solved)), (qM_wrong, .inl (cI, 16, .inl M_wrong)), (qM_rights, .inl (cI, 128, .inl M_rights)), (qM_mixer, .inl (cI, 250, .inl M_mixer))]) (As := []) (rest := [.int (8 : Int32), .int (x2 + (32 : Int32))]) (c_Mo_blockSize l D cI cJ tt qM (.int M_thrown) (.int M_half) (.int M_pattern) M_craft (.ref qM_begins) (.ref qM_firsts) (.ref qM_seconds) (.ref qM_powers) (.ref qM_logarithms) (.ref qM_forms) (.ref qM_elements) (.ref qM_mixer) M_data M_waiting M_master M_counts (.ref qM_line) (.int M_length) M_sent M_state (.ref qM_places) (.ref qM_least) (.ref qM_row) (.int M_rowSize) (.int M_differ) (.int M_blocks) (.ref qM_marks) (.ref qM_wrongs) (.ref qM_bytes) (.ref qM_rights) (.ref qM_tells) (.int M_lastMaster) (.ref qM_lastCounts) (.ref qM_word) (.ref qM_values) (.ref qM_system) (.ref qM_solved) (.ref qM_wrong) _ M_depth M_fill r19 hu) F ok_Mo_blockSize rfl k_1034 hK hE hP hD hS hA [0] [1, 2, 3, 4, 5, 6, 7, 8, 9, 10, 11, 12, 13, 14, 15, 16, 17, 18, 19, 20, 21, 22, 23] rfl rfl (by decide) (by decide) (by decide) 0 rfl rfl rfl ⟨rfl, rfl, Nat.le_of_ble_eq_true rfl, Nat.le_of_ble_eq_true rfl⟩ ⟨Nat.zero_le _, Nat.zero_le _⟩ rfl hl.1 rfl (Nat.le_of_ble_eq_true rfl) d_Mo_receive_74 (fun H locs hP hD hS => ?_)
      have hP : va_P D classes (w_Mo_receive cI cJ qM qM_begins qM_firsts qM_seconds qM_least qM_places qM_line qM_row qM_marks qM_wrongs qM_tells qM_bytes qM_lastCounts qM_elements qM_word qM_powers qM_values qM_logarithms qM_forms qM_system qM_solved qM_wrong qM_rights qM_mixer M_craft M_data M_waiting M_master M_counts M_sent M_state M_thrown M_depth M_fill M_half M_pattern M_length M_rowSize M_differ M_blocks M_lastMaster M_begins M_firsts M_seconds M_least M_places M_line M_row M_marks M_wrongs M_tells M_bytes M_lastCounts M_elements M_word M_powers M_values M_logarithms M_forms M_system M_solved M_wrong M_rights M_mixer) H := hP.sub [23, 0, 1, 2, 3, 4, 5, 6, 7, 8, 9, 10, 11, 12, 13, 14, 15, 16, 17, 18, 19, 20, 21, 22] rfl
      have hD : va_D A (w_Mo_receive cI cJ qM qM_begins qM_firsts qM_seconds qM_least qM_places qM_line qM_row qM_marks qM_wrongs qM_tells qM_bytes qM_lastCounts qM_elements qM_word qM_powers qM_values qM_logarithms qM_forms qM_system qM_solved qM_wrong qM_rights qM_mixer M_craft M_data M_waiting M_master M_counts M_sent M_state M_thrown M_depth M_fill M_half M_pattern M_length M_rowSize M_differ M_blocks M_lastMaster M_begins M_firsts M_seconds M_least M_places M_line M_row M_marks M_wrongs M_tells M_bytes M_lastCounts M_elements M_word M_powers M_values M_logarithms M_forms M_system M_solved M_wrong M_rights M_mixer) := hD.sub [23, 0, 1, 2, 3, 4, 5, 6, 7, 8, 9, 10, 11, 12, 13, 14, 15, 16, 17, 18, 19, 20, 21, 22] (by decide) rfl
      refine lv_imul hx hb d_Mo_receive_77 ?_
      refine lv_iadd hx hb d_Mo_receive_78 ?_
      refine lv_aload_n hx hb d_Mo_receive_79 rfl (lv_at hl 0 rfl) ?_
      refine va_get (D := D) (ci := 11) (v := .int M_rowSize) (C := "DeepChannelModel") (T := fT_Mo) (N := 40) hx hb hts u_Mo hown hK hP 0 rfl rfl 25 (by decide) (hts _ k_911) (fun _ h9 => h9) rfl d_Mo_receive_80 ?_
      refine z_if hm (lv_icmp_gt (tgt := 150) hx hb d_Mo_receive_83 (by decide)) (fun hm => ?_) (fun hm => ?_)
      · refine lv_aload_n hx hb d_Mo_receive_150 rfl (lv_at hl 0 rfl) ?_
        refine va_get (D := D) (ci := 11) (v := .int M_blocks) (C := "DeepChannelModel") (T := fT_Mo) (N := 40) hx hb hts u_Mo hown hK hP 0 rfl rfl 27 (by decide) (hts _ k_913) (fun _ h9 => h9) rfl d_Mo_receive_151 ?_
        cases hm
        exact z_qo hQ (z_ireti hr hx hb hlocks hK hP hD hS d_Mo_receive_154)
      · refine lv_aload_n hx hb d_Mo_receive_86 rfl (lv_at hl 0 rfl) ?_
        refine lv_iload_n hx hb d_Mo_receive_87 rfl (lv_at hl 2 rfl) ?_
        obtain ⟨r21, hu, hm⟩ := bd_el hm
        replace hm := nm_1 hm
        refine z_cVi (wc := w_Mo_markWrong cI cJ qM qM_row (.int M_thrown) (.int M_depth) (.int M_fill) (.int M_half) (.int M_pattern) M_craft (.ref qM_begins) (.ref qM_firsts) (.ref qM_seconds) (.ref qM_powers) (.ref qM_logarithms) (.ref qM_forms) (.ref qM_elements) (.ref qM_mixer) M_data M_waiting M_master M_counts (.ref qM_line) (.int M_length) M_sent M_state (.ref qM_places) (.ref qM_least) (.int M_rowSize) (.int M_differ) (.int M_blocks) (.ref qM_marks) (.ref qM_wrongs) (.ref qM_bytes) (.ref qM_rights) (.ref qM_tells) (.int M_lastMaster) (.ref qM_lastCounts) (.ref qM_word) (.ref qM_values) (.ref qM_system) (.ref qM_solved) (.ref qM_wrong) M_row) (wc' := w_Mo_markWrong cI cJ qM qM_row (.int M_thrown) (.int M_depth) (.int M_fill) (.int M_half) (.int M_pattern) M_craft (.ref qM_begins) (.ref qM_firsts) (.ref qM_seconds) (.ref qM_powers) (.ref qM_logarithms) (.ref qM_forms) (.ref qM_elements) (.ref qM_mixer) M_data M_waiting M_master M_counts (.ref qM_line) (.int M_length) M_sent M_state (.ref qM_places) (.ref qM_least) (.int M_rowSize) (.int M_differ) (.int M_blocks) (.ref qM_marks) (.ref qM_wrongs) (.ref qM_bytes) (.ref qM_rights) (.ref qM_tells) (.int M_lastMaster) (.ref qM_lastCounts) (.ref qM_word) (.ref qM_values) (.ref qM_system) (.ref qM_solved) (.ref qM_wrong) M_row) (wr := [(qM_begins, .inl (cI, 6, .inl M_begins)), (qM_firsts, .inl (cI, 18, .inl M_firsts)), (qM_seconds, .inl (cI, 18, .inl M_seconds)), (qM_least, .inl (cI, 230464, .inl M_least)), (qM_places, .inl (cI, 3600, .inl M_places)), (qM_line, .inl (cI, 4096, .inl M_line)), (qM_marks, .inl (cI, 16, .inl M_marks)), (qM_wrongs, .inl (cI, 16, .inl M_wrongs)), (qM_tells, .inl (cI, 96, .inl M_tells)), (qM_bytes, .inl (cI, 4000, .inl M_bytes)), (qM_lastCounts, .inl (cI, 8, .inl M_lastCounts)), (qM_elements, .inl (cI, 256, .inl M_elements)), (qM_word, .inl (cI, 255, .inl M_word)), (qM_powers, .inl (cI, 255, .inl M_powers)), (qM_values, .inl (cI, 32, .inl M_values)), (qM_logarithms, .inl (cI, 256, .inl M_logarithms)), (qM_forms, .inl (cI, 256, .inl M_forms)), (qM_system, .inl (cI, 1056, .inl M_system)), (qM_solved, .inl (cI, 32, .inl M_solved)), (qM_wrong, .inl (cI, 16, .inl M_wrong)), (qM_rights, .inl (cI, 128, .inl M_rights)), (qM_mixer, .inl (cI, 250, .inl M_mixer))]) (As := [.int x2]) (rest := []) (c_Mo_markWrong l D cI cJ tt qM qM_row (.int M_thrown) (.int M_depth) (.int M_fill) (.int M_half) (.int M_pattern) M_craft (.ref qM_begins) (.ref qM_firsts) (.ref qM_seconds) (.ref qM_powers) (.ref qM_logarithms) (.ref qM_forms) (.ref qM_elements) (.ref qM_mixer) M_data M_waiting M_master M_counts (.ref qM_line) (.int M_length) M_sent M_state (.ref qM_places) (.ref qM_least) (.int M_rowSize) (.int M_differ) (.int M_blocks) (.ref qM_marks) (.ref qM_wrongs) (.ref qM_bytes) (.ref qM_rights) (.ref qM_tells) (.int M_lastMaster) (.ref qM_lastCounts) (.ref qM_word) (.ref qM_values) (.ref qM_system) (.ref qM_solved) (.ref qM_wrong) _ M_row x2 r21 hu) F ok_Mo_markWrong rfl k_1143 hK hE hP hD hS hA [0, 7] [1, 2, 3, 4, 5, 6, 8, 9, 10, 11, 12, 13, 14, 15, 16, 17, 18, 19, 20, 21, 22, 23] rfl rfl (by decide) (by decide) (by decide) 0 rfl rfl rfl ⟨rfl, rfl, Nat.le_of_ble_eq_true rfl, Nat.le_of_ble_eq_true rfl⟩ ⟨Nat.zero_le _, Nat.zero_le _⟩ rfl hl.1 rfl (Nat.le_of_ble_eq_true rfl) d_Mo_receive_88 (fun H locs hP hD hS => ?_)
        have hP : va_P D classes (w_Mo_receive cI cJ qM qM_begins qM_firsts qM_seconds qM_least qM_places qM_line qM_row qM_marks qM_wrongs qM_tells qM_bytes qM_lastCounts qM_elements qM_word qM_powers qM_values qM_logarithms qM_forms qM_system qM_solved qM_wrong qM_rights qM_mixer M_craft M_data M_waiting M_master M_counts M_sent M_state M_thrown M_depth M_fill M_half M_pattern M_length M_rowSize M_differ M_blocks M_lastMaster M_begins M_firsts M_seconds M_least M_places M_line M_row M_marks M_wrongs M_tells M_bytes M_lastCounts M_elements M_word M_powers M_values M_logarithms M_forms M_system M_solved M_wrong M_rights M_mixer) H := hP.sub [22, 0, 1, 2, 3, 4, 5, 23, 6, 7, 8, 9, 10, 11, 12, 13, 14, 15, 16, 17, 18, 19, 20, 21] rfl
        have hD : va_D A (w_Mo_receive cI cJ qM qM_begins qM_firsts qM_seconds qM_least qM_places qM_line qM_row qM_marks qM_wrongs qM_tells qM_bytes qM_lastCounts qM_elements qM_word qM_powers qM_values qM_logarithms qM_forms qM_system qM_solved qM_wrong qM_rights qM_mixer M_craft M_data M_waiting M_master M_counts M_sent M_state M_thrown M_depth M_fill M_half M_pattern M_length M_rowSize M_differ M_blocks M_lastMaster M_begins M_firsts M_seconds M_least M_places M_line M_row M_marks M_wrongs M_tells M_bytes M_lastCounts M_elements M_word M_powers M_values M_logarithms M_forms M_system M_solved M_wrong M_rights M_mixer) := hD.sub [22, 0, 1, 2, 3, 4, 5, 23, 6, 7, 8, 9, 10, 11, 12, 13, 14, 15, 16, 17, 18, 19, 20, 21] (by decide) rfl
        refine lv_iload_n hx hb d_Mo_receive_91 rfl (lv_at hl 1 rfl) ?_
        refine z_if hm (lv_icmp_gt (tgt := 99) hx hb d_Mo_receive_92 (by decide)) (fun hm => ?_) (fun hm => ?_)
        · refine lv_iconst (v := (0 : Int32)) hx hb d_Mo_receive_99 (by decide) ?_
          exact T100 x1 x2 x3 (0 : Int32) M_thrown M_rowSize M_differ M_blocks M_lastMaster M_least M_places M_row M_marks M_wrongs M_tells M_bytes M_lastCounts M_word M_values M_system M_solved M_wrong M_rights hm _ _ hP hD hS _ (lv_sub hl [0, 1, 2, 3] rfl)
        · refine lv_iconst (v := (1 : Int32)) hx hb d_Mo_receive_95 (by decide) ?_
          refine lv_goto (tgt := 100) hx hb d_Mo_receive_96 (by decide) ?_
          exact T100 x1 x2 x3 (1 : Int32) M_thrown M_rowSize M_differ M_blocks M_lastMaster M_least M_places M_row M_marks M_wrongs M_tells M_bytes M_lastCounts M_word M_values M_system M_solved M_wrong M_rights hm _ _ hP hD hS _ (lv_sub hl [0, 1, 2, 3] rfl)
  have T63 : ∀ (x1 : Int32) (M_thrown : Int32) (M_rowSize : Int32) (M_differ : Int32) (M_blocks : Int32) (M_lastMaster : Int32) (M_least : Nat → Int32) (M_places : Nat → Int32) (M_row : Nat → Int32) (M_marks : Nat → Int32) (M_wrongs : Nat → Int32) (M_tells : Nat → Int32) (M_bytes : Nat → Int32) (M_lastCounts : Nat → Int32) (M_word : Nat → Int32) (M_values : Nat → Int32) (M_system : Nat → Int32) (M_solved : Nat → Int32) (M_wrong : Nat → Int32) (M_rights : Nat → Int32), f_Mo_receive_63 M_depth M_fill M_half M_elements M_powers M_logarithms M_forms M_mixer x1 M_thrown M_rowSize M_differ M_blocks M_lastMaster M_least M_places M_row M_marks M_wrongs M_tells M_bytes M_lastCounts M_word M_values M_system M_solved M_wrong M_rights = some (rr, M_thrown', M_rowSize', M_differ', M_blocks', M_lastMaster', M_least', M_places', M_row', M_marks', M_wrongs', M_tells', M_bytes', M_lastCounts', M_word', M_values', M_system', M_solved', M_wrong', M_rights') → ∀ (H : Heap) (locs : List Loc), va_P D classes (w_Mo_receive cI cJ qM qM_begins qM_firsts qM_seconds qM_least qM_places qM_line qM_row qM_marks qM_wrongs qM_tells qM_bytes qM_lastCounts qM_elements qM_word qM_powers qM_values qM_logarithms qM_forms qM_system qM_solved qM_wrong qM_rights qM_mixer M_craft M_data M_waiting M_master M_counts M_sent M_state M_thrown M_depth M_fill M_half M_pattern M_length M_rowSize M_differ M_blocks M_lastMaster M_begins M_firsts M_seconds M_least M_places M_line M_row M_marks M_wrongs M_tells M_bytes M_lastCounts M_elements M_word M_powers M_values M_logarithms M_forms M_system M_solved M_wrong M_rights M_mixer) H → va_D A (w_Mo_receive cI cJ qM qM_begins qM_firsts qM_seconds qM_least qM_places qM_line qM_row qM_marks qM_wrongs qM_tells qM_bytes qM_lastCounts qM_elements qM_word qM_powers qM_values qM_logarithms qM_forms qM_system qM_solved qM_wrong qM_rights qM_mixer M_craft M_data M_waiting M_master M_counts M_sent M_state M_thrown M_depth M_fill M_half M_pattern M_length M_rowSize M_differ M_blocks M_lastMaster M_begins M_firsts M_seconds M_least M_places M_line M_row M_marks M_wrongs M_tells M_bytes M_lastCounts M_elements M_word M_powers M_values M_logarithms M_forms M_system M_solved M_wrong M_rights M_mixer) → va_S A s.heap H locs → ∀ (ls : Array Slot), lv_has ls 5 [(0, .ref qM), (1, .int x1)] → W p l e (RM 5 126) s m args below meth c H locs 0 0 Q0 (F0 m 63 ls []) := by
    intro x1 M_thrown M_rowSize M_differ M_blocks M_lastMaster M_least M_places M_row M_marks M_wrongs M_tells M_bytes M_lastCounts M_word M_values M_system M_solved M_wrong M_rights hm H locs hP hD hS ls hl
    unfold f_Mo_receive_63 at hm
    refine lv_iconst (v := (0 : Int32)) hx hb d_Mo_receive_63 (by decide) ?_
    refine lv_istore_n (lv' := [(2, .int (0 : Int32)), (0, .ref qM), (1, .int x1)]) hx hb d_Mo_receive_64 rfl hl (by decide) rfl (fun ls hl => ?_)
    refine lv_iconst (v := (-1 : Int32)) hx hb d_Mo_receive_65 (by decide) ?_
    refine lv_istore_n (lv' := [(3, .int (-1 : Int32)), (2, .int (0 : Int32)), (0, .ref qM), (1, .int x1)]) hx hb d_Mo_receive_66 rfl hl (by decide) rfl (fun ls hl => ?_)
    exact T67 10000 x1 (0 : Int32) (-1 : Int32) M_thrown M_rowSize M_differ M_blocks M_lastMaster M_least M_places M_row M_marks M_wrongs M_tells M_bytes M_lastCounts M_word M_values M_system M_solved M_wrong M_rights hm _ _ hP hD hS _ (lv_sub hl [2, 3, 1, 0] rfl)
  have T44 : ∀ (n44 : Nat) (x1 : Int32) (x2 : Int32) (M_thrown : Int32) (M_rowSize : Int32) (M_differ : Int32) (M_blocks : Int32) (M_lastMaster : Int32) (M_least : Nat → Int32) (M_places : Nat → Int32) (M_row : Nat → Int32) (M_marks : Nat → Int32) (M_wrongs : Nat → Int32) (M_tells : Nat → Int32) (M_bytes : Nat → Int32) (M_lastCounts : Nat → Int32) (M_word : Nat → Int32) (M_values : Nat → Int32) (M_system : Nat → Int32) (M_solved : Nat → Int32) (M_wrong : Nat → Int32) (M_rights : Nat → Int32), f_Mo_receive_44 M_depth M_fill M_half M_elements M_powers M_logarithms M_forms M_mixer n44 x1 x2 M_thrown M_rowSize M_differ M_blocks M_lastMaster M_least M_places M_row M_marks M_wrongs M_tells M_bytes M_lastCounts M_word M_values M_system M_solved M_wrong M_rights = some (rr, M_thrown', M_rowSize', M_differ', M_blocks', M_lastMaster', M_least', M_places', M_row', M_marks', M_wrongs', M_tells', M_bytes', M_lastCounts', M_word', M_values', M_system', M_solved', M_wrong', M_rights') → ∀ (H : Heap) (locs : List Loc), va_P D classes (w_Mo_receive cI cJ qM qM_begins qM_firsts qM_seconds qM_least qM_places qM_line qM_row qM_marks qM_wrongs qM_tells qM_bytes qM_lastCounts qM_elements qM_word qM_powers qM_values qM_logarithms qM_forms qM_system qM_solved qM_wrong qM_rights qM_mixer M_craft M_data M_waiting M_master M_counts M_sent M_state M_thrown M_depth M_fill M_half M_pattern M_length M_rowSize M_differ M_blocks M_lastMaster M_begins M_firsts M_seconds M_least M_places M_line M_row M_marks M_wrongs M_tells M_bytes M_lastCounts M_elements M_word M_powers M_values M_logarithms M_forms M_system M_solved M_wrong M_rights M_mixer) H → va_D A (w_Mo_receive cI cJ qM qM_begins qM_firsts qM_seconds qM_least qM_places qM_line qM_row qM_marks qM_wrongs qM_tells qM_bytes qM_lastCounts qM_elements qM_word qM_powers qM_values qM_logarithms qM_forms qM_system qM_solved qM_wrong qM_rights qM_mixer M_craft M_data M_waiting M_master M_counts M_sent M_state M_thrown M_depth M_fill M_half M_pattern M_length M_rowSize M_differ M_blocks M_lastMaster M_begins M_firsts M_seconds M_least M_places M_line M_row M_marks M_wrongs M_tells M_bytes M_lastCounts M_elements M_word M_powers M_values M_logarithms M_forms M_system M_solved M_wrong M_rights M_mixer) → va_S A s.heap H locs → ∀ (ls : Array Slot), lv_has ls 5 [(0, .ref qM), (1, .int x1), (2, .int x2)] → W p l e (RM 5 126) s m args below meth c H locs 0 0 Q0 (F0 m 44 ls []) := by
    intro n44
    induction n44 with
    | zero => intro x1 x2 M_thrown M_rowSize M_differ M_blocks M_lastMaster M_least M_places M_row M_marks M_wrongs M_tells M_bytes M_lastCounts M_word M_values M_system M_solved M_wrong M_rights hm; cases hm
    | succ n44 ih44 =>
      intro x1 x2 M_thrown M_rowSize M_differ M_blocks M_lastMaster M_least M_places M_row M_marks M_wrongs M_tells M_bytes M_lastCounts M_word M_values M_system M_solved M_wrong M_rights hm H locs hP hD hS ls hl
      replace hm : f_Mo_receive_44_b M_depth M_fill M_half M_elements M_powers M_logarithms M_forms M_mixer (f_Mo_receive_44 M_depth M_fill M_half M_elements M_powers M_logarithms M_forms M_mixer n44) x1 x2 M_thrown M_rowSize M_differ M_blocks M_lastMaster M_least M_places M_row M_marks M_wrongs M_tells M_bytes M_lastCounts M_word M_values M_system M_solved M_wrong M_rights = some (rr, M_thrown', M_rowSize', M_differ', M_blocks', M_lastMaster', M_least', M_places', M_row', M_marks', M_wrongs', M_tells', M_bytes', M_lastCounts', M_word', M_values', M_system', M_solved', M_wrong', M_rights') := hm
      unfold f_Mo_receive_44_b at hm
      refine lv_iload_n hx hb d_Mo_receive_44 rfl (lv_at hl 2 rfl) ?_
      refine lv_bipush (v := (8 : Int32)) hx hb d_Mo_receive_45 (by decide) ?_
      refine z_if hm (lv_icmp_ge (tgt := 63) hx hb d_Mo_receive_47 (by decide)) (fun hm => ?_) (fun hm => ?_)
      · exact T63 x1 M_thrown M_rowSize M_differ M_blocks M_lastMaster M_least M_places M_row M_marks M_wrongs M_tells M_bytes M_lastCounts M_word M_values M_system M_solved M_wrong M_rights hm _ _ hP hD hS _ (lv_sub hl [0, 1] rfl)
      · refine lv_aload_n hx hb d_Mo_receive_50 rfl (lv_at hl 0 rfl) ?_
        refine va_get (D := D) (ci := 11) (v := .ref qM_lastCounts) (C := "DeepChannelModel") (T := fT_Mo) (N := 40) hx hb hts u_Mo hown hK hP 0 rfl rfl 34 (by decide) (hts _ k_920) (fun _ h9 => h9) rfl d_Mo_receive_51 ?_
        refine lv_iload_n hx hb d_Mo_receive_54 rfl (lv_at hl 2 rfl) ?_
        refine lv_iconst (v := (-1 : Int32)) hx hb d_Mo_receive_55 (by decide) ?_
        refine z_iast hm hx hb hK hP hD hS 12 rfl d_Mo_receive_56 (fun g23 hm H locs hP hD hS => ?_)
        have hP : va_P D classes (w_Mo_receive cI cJ qM qM_begins qM_firsts qM_seconds qM_least qM_places qM_line qM_row qM_marks qM_wrongs qM_tells qM_bytes qM_lastCounts qM_elements qM_word qM_powers qM_values qM_logarithms qM_forms qM_system qM_solved qM_wrong qM_rights qM_mixer M_craft M_data M_waiting M_master M_counts M_sent M_state M_thrown M_depth M_fill M_half M_pattern M_length M_rowSize M_differ M_blocks M_lastMaster M_begins M_firsts M_seconds M_least M_places M_line M_row M_marks M_wrongs M_tells M_bytes g23 M_elements M_word M_powers M_values M_logarithms M_forms M_system M_solved M_wrong M_rights M_mixer) H := hP
        have hD : va_D A (w_Mo_receive cI cJ qM qM_begins qM_firsts qM_seconds qM_least qM_places qM_line qM_row qM_marks qM_wrongs qM_tells qM_bytes qM_lastCounts qM_elements qM_word qM_powers qM_values qM_logarithms qM_forms qM_system qM_solved qM_wrong qM_rights qM_mixer M_craft M_data M_waiting M_master M_counts M_sent M_state M_thrown M_depth M_fill M_half M_pattern M_length M_rowSize M_differ M_blocks M_lastMaster M_begins M_firsts M_seconds M_least M_places M_line M_row M_marks M_wrongs M_tells M_bytes g23 M_elements M_word M_powers M_values M_logarithms M_forms M_system M_solved M_wrong M_rights M_mixer) := hD
        obtain ⟨v24, ev, hm⟩ := nm_el hm
        refine lv_iinc (v := v24) (lv' := [(2, .int v24), (0, .ref qM), (1, .int x1)]) hx hb d_Mo_receive_57 hl (k := 2) rfl (by rw [ev]; rfl) (by decide) rfl (fun ls hl => ?_)
        refine lv_goto (tgt := 44) hx hb d_Mo_receive_60 (by decide) ?_
        exact ih44 x1 v24 M_thrown M_rowSize M_differ M_blocks M_lastMaster M_least M_places M_row M_marks M_wrongs M_tells M_bytes g23 M_word M_values M_system M_solved M_wrong M_rights hm _ _ hP hD hS _ (lv_sub hl [1, 2, 0] rfl)
  have T16 : ∀ (x1 : Int32) (t1 : Int32) (M_thrown : Int32) (M_rowSize : Int32) (M_differ : Int32) (M_blocks : Int32) (M_lastMaster : Int32) (M_least : Nat → Int32) (M_places : Nat → Int32) (M_row : Nat → Int32) (M_marks : Nat → Int32) (M_wrongs : Nat → Int32) (M_tells : Nat → Int32) (M_bytes : Nat → Int32) (M_lastCounts : Nat → Int32) (M_word : Nat → Int32) (M_values : Nat → Int32) (M_system : Nat → Int32) (M_solved : Nat → Int32) (M_wrong : Nat → Int32) (M_rights : Nat → Int32), f_Mo_receive_16 M_depth M_fill M_half M_pattern M_length M_begins M_firsts M_seconds M_line M_elements M_powers M_logarithms M_forms M_mixer x1 t1 M_thrown M_rowSize M_differ M_blocks M_lastMaster M_least M_places M_row M_marks M_wrongs M_tells M_bytes M_lastCounts M_word M_values M_system M_solved M_wrong M_rights = some (rr, M_thrown', M_rowSize', M_differ', M_blocks', M_lastMaster', M_least', M_places', M_row', M_marks', M_wrongs', M_tells', M_bytes', M_lastCounts', M_word', M_values', M_system', M_solved', M_wrong', M_rights') → ∀ (H : Heap) (locs : List Loc), va_P D classes (w_Mo_receive cI cJ qM qM_begins qM_firsts qM_seconds qM_least qM_places qM_line qM_row qM_marks qM_wrongs qM_tells qM_bytes qM_lastCounts qM_elements qM_word qM_powers qM_values qM_logarithms qM_forms qM_system qM_solved qM_wrong qM_rights qM_mixer M_craft M_data M_waiting M_master M_counts M_sent M_state M_thrown M_depth M_fill M_half M_pattern M_length M_rowSize M_differ M_blocks M_lastMaster M_begins M_firsts M_seconds M_least M_places M_line M_row M_marks M_wrongs M_tells M_bytes M_lastCounts M_elements M_word M_powers M_values M_logarithms M_forms M_system M_solved M_wrong M_rights M_mixer) H → va_D A (w_Mo_receive cI cJ qM qM_begins qM_firsts qM_seconds qM_least qM_places qM_line qM_row qM_marks qM_wrongs qM_tells qM_bytes qM_lastCounts qM_elements qM_word qM_powers qM_values qM_logarithms qM_forms qM_system qM_solved qM_wrong qM_rights qM_mixer M_craft M_data M_waiting M_master M_counts M_sent M_state M_thrown M_depth M_fill M_half M_pattern M_length M_rowSize M_differ M_blocks M_lastMaster M_begins M_firsts M_seconds M_least M_places M_line M_row M_marks M_wrongs M_tells M_bytes M_lastCounts M_elements M_word M_powers M_values M_logarithms M_forms M_system M_solved M_wrong M_rights M_mixer) → va_S A s.heap H locs → ∀ (ls : Array Slot), lv_has ls 5 [(0, .ref qM), (1, .int x1)] → W p l e (RM 5 126) s m args below meth c H locs 0 0 Q0 (F0 m 16 ls [.int t1, .ref qM]) := by
    intro x1 t1 M_thrown M_rowSize M_differ M_blocks M_lastMaster M_least M_places M_row M_marks M_wrongs M_tells M_bytes M_lastCounts M_word M_values M_system M_solved M_wrong M_rights hm H locs hP hD hS ls hl
    unfold f_Mo_receive_16 at hm
    refine va_put (D := D) (ci := 11) (v := .int t1) (ty := .int) (C := "DeepChannelModel") (T := fT_Mo) (N := 40) hx hb hts u_Mo fY_Mo fK_Mo fN_Mo hown hK hP hD hS 0 rfl rfl 0 (by decide) (hts _ k_886) (fun _ h9 => h9) rfl (by decide +kernel) rfl rfl (Nat.le_of_ble_eq_true rfl) d_Mo_receive_16 (fun H locs hP hD hS => ?_)
    have hP : va_P D classes (w_Mo_receive cI cJ qM qM_begins qM_firsts qM_seconds qM_least qM_places qM_line qM_row qM_marks qM_wrongs qM_tells qM_bytes qM_lastCounts qM_elements qM_word qM_powers qM_values qM_logarithms qM_forms qM_system qM_solved qM_wrong qM_rights qM_mixer M_craft M_data M_waiting M_master M_counts M_sent M_state t1 M_depth M_fill M_half M_pattern M_length M_rowSize M_differ M_blocks M_lastMaster M_begins M_firsts M_seconds M_least M_places M_line M_row M_marks M_wrongs M_tells M_bytes M_lastCounts M_elements M_word M_powers M_values M_logarithms M_forms M_system M_solved M_wrong M_rights M_mixer) H := hP
    have hD : va_D A (w_Mo_receive cI cJ qM qM_begins qM_firsts qM_seconds qM_least qM_places qM_line qM_row qM_marks qM_wrongs qM_tells qM_bytes qM_lastCounts qM_elements qM_word qM_powers qM_values qM_logarithms qM_forms qM_system qM_solved qM_wrong qM_rights qM_mixer M_craft M_data M_waiting M_master M_counts M_sent M_state t1 M_depth M_fill M_half M_pattern M_length M_rowSize M_differ M_blocks M_lastMaster M_begins M_firsts M_seconds M_least M_places M_line M_row M_marks M_wrongs M_tells M_bytes M_lastCounts M_elements M_word M_powers M_values M_logarithms M_forms M_system M_solved M_wrong M_rights M_mixer) := hD
    refine lv_aload_n hx hb d_Mo_receive_19 rfl (lv_at hl 0 rfl) ?_
    refine va_get (D := D) (ci := 11) (v := .int t1) (C := "DeepChannelModel") (T := fT_Mo) (N := 40) hx hb hts u_Mo hown hK hP 0 rfl rfl 0 (by decide) (hts _ k_886) (fun _ h9 => h9) rfl d_Mo_receive_20 ?_
    refine z_if hm (lv_if_le (tgt := 28) hx hb d_Mo_receive_23 (by decide)) (fun hm => ?_) (fun hm => ?_)
    · refine lv_aload_n hx hb d_Mo_receive_28 rfl (lv_at hl 0 rfl) ?_
      obtain ⟨⟨v25, v26, g27, g28, g29⟩, hu, hm⟩ := bd_el hm
      replace hm := nm_5 hm
      refine z_cVv (wc := w_Mo_decode cI cJ qM qM_begins qM_firsts qM_seconds qM_least qM_places qM_line qM_row (.int t1) (.int M_depth) (.int M_fill) (.int M_half) M_craft (.ref qM_powers) (.ref qM_logarithms) (.ref qM_forms) (.ref qM_elements) (.ref qM_mixer) M_data M_waiting M_master M_counts M_sent M_state (.int M_blocks) (.ref qM_marks) (.ref qM_wrongs) (.ref qM_bytes) (.ref qM_rights) (.ref qM_tells) (.int M_lastMaster) (.ref qM_lastCounts) (.ref qM_word) (.ref qM_values) (.ref qM_system) (.ref qM_solved) (.ref qM_wrong) M_pattern M_length M_rowSize M_differ M_begins M_firsts M_seconds M_least M_places M_line M_row) (wc' := w_Mo_decode cI cJ qM qM_begins qM_firsts qM_seconds qM_least qM_places qM_line qM_row (.int t1) (.int M_depth) (.int M_fill) (.int M_half) M_craft (.ref qM_powers) (.ref qM_logarithms) (.ref qM_forms) (.ref qM_elements) (.ref qM_mixer) M_data M_waiting M_master M_counts M_sent M_state (.int M_blocks) (.ref qM_marks) (.ref qM_wrongs) (.ref qM_bytes) (.ref qM_rights) (.ref qM_tells) (.int M_lastMaster) (.ref qM_lastCounts) (.ref qM_word) (.ref qM_values) (.ref qM_system) (.ref qM_solved) (.ref qM_wrong) M_pattern M_length v25 v26 M_begins M_firsts M_seconds g27 g28 M_line g29) (wr := [(qM_marks, .inl (cI, 16, .inl M_marks)), (qM_wrongs, .inl (cI, 16, .inl M_wrongs)), (qM_tells, .inl (cI, 96, .inl M_tells)), (qM_bytes, .inl (cI, 4000, .inl M_bytes)), (qM_lastCounts, .inl (cI, 8, .inl M_lastCounts)), (qM_elements, .inl (cI, 256, .inl M_elements)), (qM_word, .inl (cI, 255, .inl M_word)), (qM_powers, .inl (cI, 255, .inl M_powers)), (qM_values, .inl (cI, 32, .inl M_values)), (qM_logarithms, .inl (cI, 256, .inl M_logarithms)), (qM_forms, .inl (cI, 256, .inl M_forms)), (qM_system, .inl (cI, 1056, .inl M_system)), (qM_solved, .inl (cI, 32, .inl M_solved)), (qM_wrong, .inl (cI, 16, .inl M_wrong)), (qM_rights, .inl (cI, 128, .inl M_rights)), (qM_mixer, .inl (cI, 250, .inl M_mixer))]) (As := []) (rest := []) (c_Mo_decode l D cI cJ tt qM qM_begins qM_firsts qM_seconds qM_least qM_places qM_line qM_row (.int t1) (.int M_depth) (.int M_fill) (.int M_half) M_craft (.ref qM_powers) (.ref qM_logarithms) (.ref qM_forms) (.ref qM_elements) (.ref qM_mixer) M_data M_waiting M_master M_counts M_sent M_state (.int M_blocks) (.ref qM_marks) (.ref qM_wrongs) (.ref qM_bytes) (.ref qM_rights) (.ref qM_tells) (.int M_lastMaster) (.ref qM_lastCounts) (.ref qM_word) (.ref qM_values) (.ref qM_system) (.ref qM_solved) (.ref qM_wrong) _ M_pattern M_length M_rowSize M_differ M_begins M_firsts M_seconds M_least M_places M_line M_row v25 v26 g27 g28 g29 hu) F ok_Mo_decode rfl k_1131 hK hE hP hD hS hA [0, 1, 2, 3, 4, 5, 6, 7] [8, 9, 10, 11, 12, 13, 14, 15, 16, 17, 18, 19, 20, 21, 22, 23] rfl rfl (by decide) (by decide) (by decide) 0 rfl rfl rfl ⟨rfl, rfl, Nat.le_of_ble_eq_true rfl, Nat.le_of_ble_eq_true rfl⟩ ⟨Nat.zero_le _, Nat.zero_le _⟩ rfl hl.1 rfl (Nat.le_of_ble_eq_true rfl) d_Mo_receive_29 (fun H locs hP hD hS => ?_)
      have hP : va_P D classes (w_Mo_receive cI cJ qM qM_begins qM_firsts qM_seconds qM_least qM_places qM_line qM_row qM_marks qM_wrongs qM_tells qM_bytes qM_lastCounts qM_elements qM_word qM_powers qM_values qM_logarithms qM_forms qM_system qM_solved qM_wrong qM_rights qM_mixer M_craft M_data M_waiting M_master M_counts M_sent M_state t1 M_depth M_fill M_half M_pattern M_length v25 v26 M_blocks M_lastMaster M_begins M_firsts M_seconds g27 g28 M_line g29 M_marks M_wrongs M_tells M_bytes M_lastCounts M_elements M_word M_powers M_values M_logarithms M_forms M_system M_solved M_wrong M_rights M_mixer) H := hP.sub [16, 17, 18, 19, 20, 21, 22, 23, 0, 1, 2, 3, 4, 5, 6, 7, 8, 9, 10, 11, 12, 13, 14, 15] rfl
      have hD : va_D A (w_Mo_receive cI cJ qM qM_begins qM_firsts qM_seconds qM_least qM_places qM_line qM_row qM_marks qM_wrongs qM_tells qM_bytes qM_lastCounts qM_elements qM_word qM_powers qM_values qM_logarithms qM_forms qM_system qM_solved qM_wrong qM_rights qM_mixer M_craft M_data M_waiting M_master M_counts M_sent M_state t1 M_depth M_fill M_half M_pattern M_length v25 v26 M_blocks M_lastMaster M_begins M_firsts M_seconds g27 g28 M_line g29 M_marks M_wrongs M_tells M_bytes M_lastCounts M_elements M_word M_powers M_values M_logarithms M_forms M_system M_solved M_wrong M_rights M_mixer) := hD.sub [16, 17, 18, 19, 20, 21, 22, 23, 0, 1, 2, 3, 4, 5, 6, 7, 8, 9, 10, 11, 12, 13, 14, 15] (by decide) rfl
      refine lv_aload_n hx hb d_Mo_receive_32 rfl (lv_at hl 0 rfl) ?_
      refine lv_iconst (v := (0 : Int32)) hx hb d_Mo_receive_33 (by decide) ?_
      refine va_put (D := D) (ci := 11) (v := .int (0 : Int32)) (ty := .int) (C := "DeepChannelModel") (T := fT_Mo) (N := 40) hx hb hts u_Mo fY_Mo fK_Mo fN_Mo hown hK hP hD hS 0 rfl rfl 27 (by decide) (hts _ k_913) (fun _ h9 => h9) rfl (by decide +kernel) rfl rfl (Nat.le_of_ble_eq_true rfl) d_Mo_receive_34 (fun H locs hP hD hS => ?_)
      have hP : va_P D classes (w_Mo_receive cI cJ qM qM_begins qM_firsts qM_seconds qM_least qM_places qM_line qM_row qM_marks qM_wrongs qM_tells qM_bytes qM_lastCounts qM_elements qM_word qM_powers qM_values qM_logarithms qM_forms qM_system qM_solved qM_wrong qM_rights qM_mixer M_craft M_data M_waiting M_master M_counts M_sent M_state t1 M_depth M_fill M_half M_pattern M_length v25 v26 (0 : Int32) M_lastMaster M_begins M_firsts M_seconds g27 g28 M_line g29 M_marks M_wrongs M_tells M_bytes M_lastCounts M_elements M_word M_powers M_values M_logarithms M_forms M_system M_solved M_wrong M_rights M_mixer) H := hP
      have hD : va_D A (w_Mo_receive cI cJ qM qM_begins qM_firsts qM_seconds qM_least qM_places qM_line qM_row qM_marks qM_wrongs qM_tells qM_bytes qM_lastCounts qM_elements qM_word qM_powers qM_values qM_logarithms qM_forms qM_system qM_solved qM_wrong qM_rights qM_mixer M_craft M_data M_waiting M_master M_counts M_sent M_state t1 M_depth M_fill M_half M_pattern M_length v25 v26 (0 : Int32) M_lastMaster M_begins M_firsts M_seconds g27 g28 M_line g29 M_marks M_wrongs M_tells M_bytes M_lastCounts M_elements M_word M_powers M_values M_logarithms M_forms M_system M_solved M_wrong M_rights M_mixer) := hD
      refine lv_aload_n hx hb d_Mo_receive_37 rfl (lv_at hl 0 rfl) ?_
      refine lv_iconst (v := (-1 : Int32)) hx hb d_Mo_receive_38 (by decide) ?_
      refine va_put (D := D) (ci := 11) (v := .int (-1 : Int32)) (ty := .int) (C := "DeepChannelModel") (T := fT_Mo) (N := 40) hx hb hts u_Mo fY_Mo fK_Mo fN_Mo hown hK hP hD hS 0 rfl rfl 33 (by decide) (hts _ k_919) (fun _ h9 => h9) rfl (by decide +kernel) rfl rfl (Nat.le_of_ble_eq_true rfl) d_Mo_receive_39 (fun H locs hP hD hS => ?_)
      have hP : va_P D classes (w_Mo_receive cI cJ qM qM_begins qM_firsts qM_seconds qM_least qM_places qM_line qM_row qM_marks qM_wrongs qM_tells qM_bytes qM_lastCounts qM_elements qM_word qM_powers qM_values qM_logarithms qM_forms qM_system qM_solved qM_wrong qM_rights qM_mixer M_craft M_data M_waiting M_master M_counts M_sent M_state t1 M_depth M_fill M_half M_pattern M_length v25 v26 (0 : Int32) (-1 : Int32) M_begins M_firsts M_seconds g27 g28 M_line g29 M_marks M_wrongs M_tells M_bytes M_lastCounts M_elements M_word M_powers M_values M_logarithms M_forms M_system M_solved M_wrong M_rights M_mixer) H := hP
      have hD : va_D A (w_Mo_receive cI cJ qM qM_begins qM_firsts qM_seconds qM_least qM_places qM_line qM_row qM_marks qM_wrongs qM_tells qM_bytes qM_lastCounts qM_elements qM_word qM_powers qM_values qM_logarithms qM_forms qM_system qM_solved qM_wrong qM_rights qM_mixer M_craft M_data M_waiting M_master M_counts M_sent M_state t1 M_depth M_fill M_half M_pattern M_length v25 v26 (0 : Int32) (-1 : Int32) M_begins M_firsts M_seconds g27 g28 M_line g29 M_marks M_wrongs M_tells M_bytes M_lastCounts M_elements M_word M_powers M_values M_logarithms M_forms M_system M_solved M_wrong M_rights M_mixer) := hD
      refine lv_iconst (v := (0 : Int32)) hx hb d_Mo_receive_42 (by decide) ?_
      refine lv_istore_n (lv' := [(2, .int (0 : Int32)), (0, .ref qM), (1, .int x1)]) hx hb d_Mo_receive_43 rfl hl (by decide) rfl (fun ls hl => ?_)
      exact T44 10000 x1 (0 : Int32) t1 v25 v26 (0 : Int32) (-1 : Int32) g27 g28 g29 M_marks M_wrongs M_tells M_bytes M_lastCounts M_word M_values M_system M_solved M_wrong M_rights hm _ _ hP hD hS _ (lv_sub hl [1, 2, 0] rfl)
    · refine lv_iconst (v := (0 : Int32)) hx hb d_Mo_receive_26 (by decide) ?_
      cases hm
      exact z_qo hQ (z_ireti hr hx hb hlocks hK hP hD hS d_Mo_receive_27)
  have T11 : ∀ (x1 : Int32) (M_thrown : Int32) (M_rowSize : Int32) (M_differ : Int32) (M_blocks : Int32) (M_lastMaster : Int32) (M_least : Nat → Int32) (M_places : Nat → Int32) (M_row : Nat → Int32) (M_marks : Nat → Int32) (M_wrongs : Nat → Int32) (M_tells : Nat → Int32) (M_bytes : Nat → Int32) (M_lastCounts : Nat → Int32) (M_word : Nat → Int32) (M_values : Nat → Int32) (M_system : Nat → Int32) (M_solved : Nat → Int32) (M_wrong : Nat → Int32) (M_rights : Nat → Int32), f_Mo_receive_11 M_depth M_fill M_half M_pattern M_length M_begins M_firsts M_seconds M_line M_elements M_powers M_logarithms M_forms M_mixer x1 M_thrown M_rowSize M_differ M_blocks M_lastMaster M_least M_places M_row M_marks M_wrongs M_tells M_bytes M_lastCounts M_word M_values M_system M_solved M_wrong M_rights = some (rr, M_thrown', M_rowSize', M_differ', M_blocks', M_lastMaster', M_least', M_places', M_row', M_marks', M_wrongs', M_tells', M_bytes', M_lastCounts', M_word', M_values', M_system', M_solved', M_wrong', M_rights') → ∀ (H : Heap) (locs : List Loc), va_P D classes (w_Mo_receive cI cJ qM qM_begins qM_firsts qM_seconds qM_least qM_places qM_line qM_row qM_marks qM_wrongs qM_tells qM_bytes qM_lastCounts qM_elements qM_word qM_powers qM_values qM_logarithms qM_forms qM_system qM_solved qM_wrong qM_rights qM_mixer M_craft M_data M_waiting M_master M_counts M_sent M_state M_thrown M_depth M_fill M_half M_pattern M_length M_rowSize M_differ M_blocks M_lastMaster M_begins M_firsts M_seconds M_least M_places M_line M_row M_marks M_wrongs M_tells M_bytes M_lastCounts M_elements M_word M_powers M_values M_logarithms M_forms M_system M_solved M_wrong M_rights M_mixer) H → va_D A (w_Mo_receive cI cJ qM qM_begins qM_firsts qM_seconds qM_least qM_places qM_line qM_row qM_marks qM_wrongs qM_tells qM_bytes qM_lastCounts qM_elements qM_word qM_powers qM_values qM_logarithms qM_forms qM_system qM_solved qM_wrong qM_rights qM_mixer M_craft M_data M_waiting M_master M_counts M_sent M_state M_thrown M_depth M_fill M_half M_pattern M_length M_rowSize M_differ M_blocks M_lastMaster M_begins M_firsts M_seconds M_least M_places M_line M_row M_marks M_wrongs M_tells M_bytes M_lastCounts M_elements M_word M_powers M_values M_logarithms M_forms M_system M_solved M_wrong M_rights M_mixer) → va_S A s.heap H locs → ∀ (ls : Array Slot), lv_has ls 5 [(0, .ref qM), (1, .int x1)] → W p l e (RM 5 126) s m args below meth c H locs 0 0 Q0 (F0 m 11 ls [.ref qM]) := by
    intro x1 M_thrown M_rowSize M_differ M_blocks M_lastMaster M_least M_places M_row M_marks M_wrongs M_tells M_bytes M_lastCounts M_word M_values M_system M_solved M_wrong M_rights hm H locs hP hD hS ls hl
    unfold f_Mo_receive_11 at hm
    refine lv_iconst (v := (1 : Int32)) hx hb d_Mo_receive_11 (by decide) ?_
    refine lv_goto (tgt := 16) hx hb d_Mo_receive_12 (by decide) ?_
    exact T16 x1 (1 : Int32) M_thrown M_rowSize M_differ M_blocks M_lastMaster M_least M_places M_row M_marks M_wrongs M_tells M_bytes M_lastCounts M_word M_values M_system M_solved M_wrong M_rights hm _ _ hP hD hS _ (lv_sub hl [0, 1] rfl)
  unfold f_Mo_receive at hm
  refine lv_aload_n hx hb d_Mo_receive_0 rfl (lv_at hl 0 rfl) ?_
  refine lv_iload_n hx hb d_Mo_receive_1 rfl (lv_at hl 1 rfl) ?_
  refine z_if hm (lv_if_lt (tgt := 11) hx hb d_Mo_receive_2 (by decide)) (fun hm => ?_) (fun hm => ?_)
  · exact T11 x1 M_thrown M_rowSize M_differ M_blocks M_lastMaster M_least M_places M_row M_marks M_wrongs M_tells M_bytes M_lastCounts M_word M_values M_system M_solved M_wrong M_rights hm _ _ hP hD hS _ (lv_sub hl [0, 1] rfl)
  · refine lv_iload_n hx hb d_Mo_receive_5 rfl (lv_at hl 1 rfl) ?_
    refine lv_bipush (v := (8 : Int32)) hx hb d_Mo_receive_6 (by decide) ?_
    refine z_if hm (lv_icmp_le (tgt := 15) hx hb d_Mo_receive_8 (by decide)) (fun hm => ?_) (fun hm => ?_)
    · refine lv_iconst (v := (0 : Int32)) hx hb d_Mo_receive_15 (by decide) ?_
      exact T16 x1 (0 : Int32) M_thrown M_rowSize M_differ M_blocks M_lastMaster M_least M_places M_row M_marks M_wrongs M_tells M_bytes M_lastCounts M_word M_values M_system M_solved M_wrong M_rights hm _ _ hP hD hS _ (lv_sub hl [0, 1] rfl)
    · exact T11 x1 M_thrown M_rowSize M_differ M_blocks M_lastMaster M_least M_places M_row M_marks M_wrongs M_tells M_bytes M_lastCounts M_word M_values M_system M_solved M_wrong M_rights hm _ _ hP hD hS _ (lv_sub hl [0, 1] rfl)
-- DeepChannelModel.block(II)I
abbrev b_Mo_block : ByteArray := prog_13_method_46_code
abbrev y_Mo_block : MethodName := ⟨"DeepChannelModel", "block", "(II)I"⟩
theorem d_Mo_block_0 : decode b_Mo_block 0 = .ok (.aload_n 0, 1) := by decide +kernel
theorem d_Mo_block_1 : decode b_Mo_block 1 = .ok (.iload_n 2, 1) := by decide +kernel
theorem d_Mo_block_2 : decode b_Mo_block 2 = .ok (.ifCond .lt 9, 3) := by decide +kernel
theorem d_Mo_block_5 : decode b_Mo_block 5 = .ok (.iload_n 2, 1) := by decide +kernel
theorem d_Mo_block_6 : decode b_Mo_block 6 = .ok (.bipush 8, 2) := by decide +kernel
theorem d_Mo_block_8 : decode b_Mo_block 8 = .ok (.if_icmp .le 7, 3) := by decide +kernel
theorem d_Mo_block_11 : decode b_Mo_block 11 = .ok (.iconst 1, 1) := by decide +kernel
theorem d_Mo_block_12 : decode b_Mo_block 12 = .ok (.goto 20, 3) := by decide +kernel
theorem d_Mo_block_15 : decode b_Mo_block 15 = .ok (.iload_n 1, 1) := by decide +kernel
theorem d_Mo_block_16 : decode b_Mo_block 16 = .ok (.ifCond .lt 11, 3) := by decide +kernel
theorem d_Mo_block_19 : decode b_Mo_block 19 = .ok (.iload_n 1, 1) := by decide +kernel
theorem d_Mo_block_20 : decode b_Mo_block 20 = .ok (.aload_n 0, 1) := by decide +kernel
theorem d_Mo_block_21 : decode b_Mo_block 21 = .ok (.getfield 135, 3) := by decide +kernel
theorem d_Mo_block_24 : decode b_Mo_block 24 = .ok (.if_icmp .lt 7, 3) := by decide +kernel
theorem d_Mo_block_27 : decode b_Mo_block 27 = .ok (.iconst 2, 1) := by decide +kernel
theorem d_Mo_block_28 : decode b_Mo_block 28 = .ok (.goto 4, 3) := by decide +kernel
theorem d_Mo_block_31 : decode b_Mo_block 31 = .ok (.iconst 0, 1) := by decide +kernel
theorem d_Mo_block_32 : decode b_Mo_block 32 = .ok (.putfield 103, 3) := by decide +kernel
theorem d_Mo_block_35 : decode b_Mo_block 35 = .ok (.aload_n 0, 1) := by decide +kernel
theorem d_Mo_block_36 : decode b_Mo_block 36 = .ok (.getfield 103, 3) := by decide +kernel
theorem d_Mo_block_39 : decode b_Mo_block 39 = .ok (.ifCond .le 5, 3) := by decide +kernel
theorem d_Mo_block_42 : decode b_Mo_block 42 = .ok (.iconst 0, 1) := by decide +kernel
theorem d_Mo_block_43 : decode b_Mo_block 43 = .ok (.ireturn, 1) := by decide +kernel
theorem d_Mo_block_44 : decode b_Mo_block 44 = .ok (.iload_n 2, 1) := by decide +kernel
theorem d_Mo_block_45 : decode b_Mo_block 45 = .ok (.iconst 2, 1) := by decide +kernel
theorem d_Mo_block_46 : decode b_Mo_block 46 = .ok (.if_icmp .ge 23, 3) := by decide +kernel
theorem d_Mo_block_49 : decode b_Mo_block 49 = .ok (.iload_n 2, 1) := by decide +kernel
theorem d_Mo_block_50 : decode b_Mo_block 50 = .ok (.ifCond .ne 12, 3) := by decide +kernel
theorem d_Mo_block_53 : decode b_Mo_block 53 = .ok (.aload_n 0, 1) := by decide +kernel
theorem d_Mo_block_54 : decode b_Mo_block 54 = .ok (.getfield 63, 3) := by decide +kernel
theorem d_Mo_block_57 : decode b_Mo_block 57 = .ok (.iload_n 1, 1) := by decide +kernel
theorem d_Mo_block_58 : decode b_Mo_block 58 = .ok (.iaload, 1) := by decide +kernel
theorem d_Mo_block_59 : decode b_Mo_block 59 = .ok (.goto 9, 3) := by decide +kernel
theorem d_Mo_block_62 : decode b_Mo_block 62 = .ok (.aload_n 0, 1) := by decide +kernel
theorem d_Mo_block_63 : decode b_Mo_block 63 = .ok (.getfield 66, 3) := by decide +kernel
theorem d_Mo_block_66 : decode b_Mo_block 66 = .ok (.iload_n 1, 1) := by decide +kernel
theorem d_Mo_block_67 : decode b_Mo_block 67 = .ok (.iaload, 1) := by decide +kernel
theorem d_Mo_block_68 : decode b_Mo_block 68 = .ok (.ireturn, 1) := by decide +kernel
theorem d_Mo_block_69 : decode b_Mo_block 69 = .ok (.iload_n 2, 1) := by decide +kernel
theorem d_Mo_block_70 : decode b_Mo_block 70 = .ok (.iconst 5, 1) := by decide +kernel
theorem d_Mo_block_71 : decode b_Mo_block 71 = .ok (.if_icmp .ge 17, 3) := by decide +kernel
theorem d_Mo_block_74 : decode b_Mo_block 74 = .ok (.aload_n 0, 1) := by decide +kernel
theorem d_Mo_block_75 : decode b_Mo_block 75 = .ok (.getfield 75, 3) := by decide +kernel
theorem d_Mo_block_78 : decode b_Mo_block 78 = .ok (.bipush 6, 2) := by decide +kernel
theorem d_Mo_block_80 : decode b_Mo_block 80 = .ok (.iload_n 1, 1) := by decide +kernel
theorem d_Mo_block_81 : decode b_Mo_block 81 = .ok (.imul, 1) := by decide +kernel
theorem d_Mo_block_82 : decode b_Mo_block 82 = .ok (.iload_n 2, 1) := by decide +kernel
theorem d_Mo_block_83 : decode b_Mo_block 83 = .ok (.iadd, 1) := by decide +kernel
theorem d_Mo_block_84 : decode b_Mo_block 84 = .ok (.iconst 2, 1) := by decide +kernel
theorem d_Mo_block_85 : decode b_Mo_block 85 = .ok (.isub, 1) := by decide +kernel
theorem d_Mo_block_86 : decode b_Mo_block 86 = .ok (.iaload, 1) := by decide +kernel
theorem d_Mo_block_87 : decode b_Mo_block 87 = .ok (.ireturn, 1) := by decide +kernel
theorem d_Mo_block_88 : decode b_Mo_block 88 = .ok (.aload_n 0, 1) := by decide +kernel
theorem d_Mo_block_89 : decode b_Mo_block 89 = .ok (.getfield 75, 3) := by decide +kernel
theorem d_Mo_block_92 : decode b_Mo_block 92 = .ok (.bipush 6, 2) := by decide +kernel
theorem d_Mo_block_94 : decode b_Mo_block 94 = .ok (.iload_n 1, 1) := by decide +kernel
theorem d_Mo_block_95 : decode b_Mo_block 95 = .ok (.imul, 1) := by decide +kernel
theorem d_Mo_block_96 : decode b_Mo_block 96 = .ok (.iconst 2, 1) := by decide +kernel
theorem d_Mo_block_97 : decode b_Mo_block 97 = .ok (.iadd, 1) := by decide +kernel
theorem d_Mo_block_98 : decode b_Mo_block 98 = .ok (.iaload, 1) := by decide +kernel
theorem d_Mo_block_99 : decode b_Mo_block 99 = .ok (.ifCond .ne 5, 3) := by decide +kernel
theorem d_Mo_block_102 : decode b_Mo_block 102 = .ok (.iconst (-1), 1) := by decide +kernel
theorem d_Mo_block_103 : decode b_Mo_block 103 = .ok (.ireturn, 1) := by decide +kernel
theorem d_Mo_block_104 : decode b_Mo_block 104 = .ok (.sipush 256, 3) := by decide +kernel
theorem d_Mo_block_107 : decode b_Mo_block 107 = .ok (.aload_n 0, 1) := by decide +kernel
theorem d_Mo_block_108 : decode b_Mo_block 108 = .ok (.getfield 69, 3) := by decide +kernel
theorem d_Mo_block_111 : decode b_Mo_block 111 = .ok (.sipush 250, 3) := by decide +kernel
theorem d_Mo_block_114 : decode b_Mo_block 114 = .ok (.iload_n 1, 1) := by decide +kernel
theorem d_Mo_block_115 : decode b_Mo_block 115 = .ok (.imul, 1) := by decide +kernel
theorem d_Mo_block_116 : decode b_Mo_block 116 = .ok (.iaload, 1) := by decide +kernel
theorem d_Mo_block_117 : decode b_Mo_block 117 = .ok (.imul, 1) := by decide +kernel
theorem d_Mo_block_118 : decode b_Mo_block 118 = .ok (.aload_n 0, 1) := by decide +kernel
theorem d_Mo_block_119 : decode b_Mo_block 119 = .ok (.getfield 69, 3) := by decide +kernel
theorem d_Mo_block_122 : decode b_Mo_block 122 = .ok (.sipush 250, 3) := by decide +kernel
theorem d_Mo_block_125 : decode b_Mo_block 125 = .ok (.iload_n 1, 1) := by decide +kernel
theorem d_Mo_block_126 : decode b_Mo_block 126 = .ok (.imul, 1) := by decide +kernel
theorem d_Mo_block_127 : decode b_Mo_block 127 = .ok (.iconst 1, 1) := by decide +kernel
theorem d_Mo_block_128 : decode b_Mo_block 128 = .ok (.iadd, 1) := by decide +kernel
theorem d_Mo_block_129 : decode b_Mo_block 129 = .ok (.iaload, 1) := by decide +kernel
theorem d_Mo_block_130 : decode b_Mo_block 130 = .ok (.iadd, 1) := by decide +kernel
theorem d_Mo_block_131 : decode b_Mo_block 131 = .ok (.istore_n 3, 1) := by decide +kernel
theorem d_Mo_block_132 : decode b_Mo_block 132 = .ok (.iload_n 2, 1) := by decide +kernel
theorem d_Mo_block_133 : decode b_Mo_block 133 = .ok (.iconst 5, 1) := by decide +kernel
theorem d_Mo_block_134 : decode b_Mo_block 134 = .ok (.if_icmp .ne 13, 3) := by decide +kernel
theorem d_Mo_block_137 : decode b_Mo_block 137 = .ok (.iload_n 3, 1) := by decide +kernel
theorem d_Mo_block_138 : decode b_Mo_block 138 = .ok (.iconst 4, 1) := by decide +kernel
theorem d_Mo_block_139 : decode b_Mo_block 139 = .ok (.ishr, 1) := by decide +kernel
theorem d_Mo_block_140 : decode b_Mo_block 140 = .ok (.sipush 1023, 3) := by decide +kernel
theorem d_Mo_block_143 : decode b_Mo_block 143 = .ok (.iand, 1) := by decide +kernel
theorem d_Mo_block_144 : decode b_Mo_block 144 = .ok (.goto 31, 3) := by decide +kernel
theorem d_Mo_block_147 : decode b_Mo_block 147 = .ok (.iload_n 2, 1) := by decide +kernel
theorem d_Mo_block_148 : decode b_Mo_block 148 = .ok (.bipush 6, 2) := by decide +kernel
theorem d_Mo_block_150 : decode b_Mo_block 150 = .ok (.if_icmp .ne 12, 3) := by decide +kernel
theorem d_Mo_block_153 : decode b_Mo_block 153 = .ok (.iload_n 3, 1) := by decide +kernel
theorem d_Mo_block_154 : decode b_Mo_block 154 = .ok (.iconst 1, 1) := by decide +kernel
theorem d_Mo_block_155 : decode b_Mo_block 155 = .ok (.ishr, 1) := by decide +kernel
theorem d_Mo_block_156 : decode b_Mo_block 156 = .ok (.bipush 7, 2) := by decide +kernel
theorem d_Mo_block_158 : decode b_Mo_block 158 = .ok (.iand, 1) := by decide +kernel
theorem d_Mo_block_159 : decode b_Mo_block 159 = .ok (.goto 16, 3) := by decide +kernel
theorem d_Mo_block_162 : decode b_Mo_block 162 = .ok (.aload_n 0, 1) := by decide +kernel
theorem d_Mo_block_163 : decode b_Mo_block 163 = .ok (.getfield 75, 3) := by decide +kernel
theorem d_Mo_block_166 : decode b_Mo_block 166 = .ok (.bipush 6, 2) := by decide +kernel
theorem d_Mo_block_168 : decode b_Mo_block 168 = .ok (.iload_n 1, 1) := by decide +kernel
theorem d_Mo_block_169 : decode b_Mo_block 169 = .ok (.imul, 1) := by decide +kernel
theorem d_Mo_block_170 : decode b_Mo_block 170 = .ok (.iload_n 2, 1) := by decide +kernel
theorem d_Mo_block_171 : decode b_Mo_block 171 = .ok (.iadd, 1) := by decide +kernel
theorem d_Mo_block_172 : decode b_Mo_block 172 = .ok (.iconst 4, 1) := by decide +kernel
theorem d_Mo_block_173 : decode b_Mo_block 173 = .ok (.isub, 1) := by decide +kernel
theorem d_Mo_block_174 : decode b_Mo_block 174 = .ok (.iaload, 1) := by decide +kernel
theorem d_Mo_block_175 : decode b_Mo_block 175 = .ok (.ireturn, 1) := by decide +kernel
theorem ok_Mo_block : OKv y_Mo_block b_Mo_block 4 (some .int) "DeepChannelModel" 2 := ⟨k_1173, k_1171, k_1172, k_55, by decide +kernel, by decide +kernel, by decide +kernel⟩
abbrev w_Mo_block (cI cJ : ClassId) (qM qM_tells qM_bytes qM_wrongs qM_marks : Nat) (M_depth M_fill M_half M_pattern M_craft M_begins M_firsts M_seconds M_powers M_logarithms M_forms M_elements M_mixer M_data M_waiting M_master M_counts M_line M_length M_sent M_state M_places M_least M_row M_rowSize M_differ M_rights M_lastMaster M_lastCounts M_word M_values M_system M_solved M_wrong : Value) (M_thrown : Int32) (M_blocks : Int32) (M_tells : Nat → Int32) (M_bytes : Nat → Int32) (M_wrongs : Nat → Int32) (M_marks : Nat → Int32) : va_W := [(qM, .inr (11, [.int M_thrown, M_depth, M_fill, M_half, M_pattern, M_craft, M_begins, M_firsts, M_seconds, M_powers, M_logarithms, M_forms, M_elements, M_mixer, M_data, M_waiting, M_master, M_counts, M_line, M_length, M_sent, M_state, M_places, M_least, M_row, M_rowSize, M_differ, .int M_blocks, .ref qM_marks, .ref qM_wrongs, .ref qM_bytes, M_rights, .ref qM_tells, M_lastMaster, M_lastCounts, M_word, M_values, M_system, M_solved, M_wrong])), (qM_tells, .inl (cI, 96, .inl M_tells)), (qM_bytes, .inl (cI, 4000, .inl M_bytes)), (qM_wrongs, .inl (cI, 16, .inl M_wrongs)), (qM_marks, .inl (cI, 16, .inl M_marks))]
def f_Mo_block_32 (M_tells : Nat → Int32) (M_bytes : Nat → Int32) (M_wrongs : Nat → Int32) (M_marks : Nat → Int32) (x1 : Int32) (x2 : Int32) (t1 : Int32) (M_thrown : Int32) : Option (Int32 × Int32) :=
  if t1 ≤ 0 then
    if (2 : Int32) ≤ x2 then
      if (5 : Int32) ≤ x2 then
        rdI M_tells 96 (((6 : Int32) * x1) + (2 : Int32)) fun v1 =>
        if v1 = 0 then
          some ((-1 : Int32), t1)
        else
        rdI M_bytes 4000 ((250 : Int32) * x1) fun v2 =>
        rdI M_bytes 4000 (((250 : Int32) * x1) + (1 : Int32)) fun v3 =>
        nm (((256 : Int32) * v2) + v3) fun v4 =>
        if x2 = (5 : Int32) then
          some (((v4 >>> ((4 : Int32) &&& 31)) &&& (1023 : Int32)), t1)
        else
        if x2 = (6 : Int32) then
          some (((v4 >>> ((1 : Int32) &&& 31)) &&& (7 : Int32)), t1)
        else
        rdI M_tells 96 ((((6 : Int32) * x1) + x2) - (4 : Int32)) fun v5 =>
        some (v5, t1)
      else
      rdI M_tells 96 ((((6 : Int32) * x1) + x2) - (2 : Int32)) fun v6 =>
      some (v6, t1)
    else
    if x2 = 0 then
      rdI M_marks 16 x1 fun v8 =>
      some (v8, t1)
    else
    rdI M_wrongs 16 x1 fun v7 =>
    some (v7, t1)
  else
  some ((0 : Int32), t1)
def f_Mo_block_27 (M_tells : Nat → Int32) (M_bytes : Nat → Int32) (M_wrongs : Nat → Int32) (M_marks : Nat → Int32) (x1 : Int32) (x2 : Int32) (M_thrown : Int32) : Option (Int32 × Int32) :=
  f_Mo_block_32 M_tells M_bytes M_wrongs M_marks x1 x2 (2 : Int32) M_thrown
def f_Mo_block_11 (M_tells : Nat → Int32) (M_bytes : Nat → Int32) (M_wrongs : Nat → Int32) (M_marks : Nat → Int32) (x1 : Int32) (x2 : Int32) (M_thrown : Int32) : Option (Int32 × Int32) :=
  f_Mo_block_32 M_tells M_bytes M_wrongs M_marks x1 x2 (1 : Int32) M_thrown
def f_Mo_block (M_thrown : Int32) (M_blocks : Int32) (M_tells : Nat → Int32) (M_bytes : Nat → Int32) (M_wrongs : Nat → Int32) (M_marks : Nat → Int32) (x1 : Int32) (x2 : Int32) : Option (Int32 × Int32) :=
  if x2 < 0 then
    f_Mo_block_11 M_tells M_bytes M_wrongs M_marks x1 x2 M_thrown
  else
  if x2 ≤ (8 : Int32) then
    if x1 < 0 then
      f_Mo_block_27 M_tells M_bytes M_wrongs M_marks x1 x2 M_thrown
    else
    if x1 < M_blocks then
      f_Mo_block_32 M_tells M_bytes M_wrongs M_marks x1 x2 (0 : Int32) M_thrown
    else
    f_Mo_block_27 M_tells M_bytes M_wrongs M_marks x1 x2 M_thrown
  else
  f_Mo_block_11 M_tells M_bytes M_wrongs M_marks x1 x2 M_thrown
set_option maxHeartbeats 4000000 in
set_option maxRecDepth 100000 in
theorem c_Mo_block (l : Launch) (D : va_G) (cI cJ : ClassId) (tt : Nat → Nat) (qM qM_tells qM_bytes qM_wrongs qM_marks : Nat) (M_depth M_fill M_half M_pattern M_craft M_begins M_firsts M_seconds M_powers M_logarithms M_forms M_elements M_mixer M_data M_waiting M_master M_counts M_line M_length M_sent M_state M_places M_least M_row M_rowSize M_differ M_rights M_lastMaster M_lastCounts M_word M_values M_system M_solved M_wrong : Value) (sz : Nat) (M_thrown : Int32) (M_blocks : Int32) (M_tells : Nat → Int32) (M_bytes : Nat → Int32) (M_wrongs : Nat → Int32) (M_marks : Nat → Int32) (x1 : Int32) (x2 : Int32) (rr : Int32) (M_thrown' : Int32) (hm : f_Mo_block M_thrown M_blocks M_tells M_bytes M_wrongs M_marks x1 x2 = some (rr, M_thrown')) : CTi l y_Mo_block b_Mo_block 4 (some .int) (RM 0 0) D cI cJ tt [.ref qM, .int x1, .int x2] (w_Mo_block cI cJ qM qM_tells qM_bytes qM_wrongs qM_marks M_depth M_fill M_half M_pattern M_craft M_begins M_firsts M_seconds M_powers M_logarithms M_forms M_elements M_mixer M_data M_waiting M_master M_counts M_line M_length M_sent M_state M_places M_least M_row M_rowSize M_differ M_rights M_lastMaster M_lastCounts M_word M_values M_system M_solved M_wrong M_thrown M_blocks M_tells M_bytes M_wrongs M_marks) (w_Mo_block cI cJ qM qM_tells qM_bytes qM_wrongs qM_marks M_depth M_fill M_half M_pattern M_craft M_begins M_firsts M_seconds M_powers M_logarithms M_forms M_elements M_mixer M_data M_waiting M_master M_counts M_line M_length M_sent M_state M_places M_least M_row M_rowSize M_differ M_rights M_lastMaster M_lastCounts M_word M_values M_system M_solved M_wrong M_thrown' M_blocks M_tells M_bytes M_wrongs M_marks) sz rr := by
  refine Met.ofW (cc := b_Mo_block) (maxL := 4) (ret := (some .int)) (by decide) rfl ?_
  intro p e s m args below meth c s₁ B hml hv
  obtain ⟨hargs, hsz, hP, hK, hD0, hE⟩ := hv
  have hx := B.exec
  have hb := B.bytes
  have hr := B.returns
  have hts : ∀ w ∈ TB, w.before args s = true := z_mV s (atoms_spec (ws := WD y_Mo_block b_Mo_block 4 (some .int)) B.pre)
  have hown : s.vm.findClass "DeepChannelModel" = some m.cls := findClass_of_methodNamed B.named
  have hlocks := B.notSynchronized
  subst hsz
  have hD := hD0.self (sz := s.heap.size)
  generalize hAe : va_A (w_Mo_block cI cJ qM qM_tells qM_bytes qM_wrongs qM_marks M_depth M_fill M_half M_pattern M_craft M_begins M_firsts M_seconds M_powers M_logarithms M_forms M_elements M_mixer M_data M_waiting M_master M_counts M_line M_length M_sent M_state M_places M_least M_row M_rowSize M_differ M_rights M_lastMaster M_lastCounts M_word M_values M_system M_solved M_wrong M_thrown M_blocks M_tells M_bytes M_wrongs M_marks) s.heap.size = A at hD hE ⊢
  have hA : ∀ q : Nat, s.heap.size ≤ q → A q := fun q h => by rw [← hAe]; exact Or.inr h
  have hS : va_S A s.heap s.heap [] := va_S.rf
  refine z_entry (vs := [.ref qM, .int x1, .int x2]) hargs (Nat.le_of_ble_eq_true rfl) (fun ls hl => ?_)
  have hl : lv_has ls 4 [(0, .ref qM), (1, .int x1), (2, .int x2)] := hl
  show W p l e (RM 0 0) s m args below meth c s.heap [] 0 0 _ _
  refine z_qi (fun Q0 hQ => ?_)
  have F : CallFix p m c b_Mo_block 4 s args TB "DeepChannelModel" := ⟨hx, hb, hml, hown, hts⟩
  have T32 : ∀ (x1 : Int32) (x2 : Int32) (t1 : Int32) (M_thrown : Int32), f_Mo_block_32 M_tells M_bytes M_wrongs M_marks x1 x2 t1 M_thrown = some (rr, M_thrown') → ∀ (H : Heap) (locs : List Loc), va_P D classes (w_Mo_block cI cJ qM qM_tells qM_bytes qM_wrongs qM_marks M_depth M_fill M_half M_pattern M_craft M_begins M_firsts M_seconds M_powers M_logarithms M_forms M_elements M_mixer M_data M_waiting M_master M_counts M_line M_length M_sent M_state M_places M_least M_row M_rowSize M_differ M_rights M_lastMaster M_lastCounts M_word M_values M_system M_solved M_wrong M_thrown M_blocks M_tells M_bytes M_wrongs M_marks) H → va_D A (w_Mo_block cI cJ qM qM_tells qM_bytes qM_wrongs qM_marks M_depth M_fill M_half M_pattern M_craft M_begins M_firsts M_seconds M_powers M_logarithms M_forms M_elements M_mixer M_data M_waiting M_master M_counts M_line M_length M_sent M_state M_places M_least M_row M_rowSize M_differ M_rights M_lastMaster M_lastCounts M_word M_values M_system M_solved M_wrong M_thrown M_blocks M_tells M_bytes M_wrongs M_marks) → va_S A s.heap H locs → ∀ (ls : Array Slot), lv_has ls 4 [(0, .ref qM), (1, .int x1), (2, .int x2)] → W p l e (RM 0 0) s m args below meth c H locs 0 0 Q0 (F0 m 32 ls [.int t1, .ref qM]) := by
    intro x1 x2 t1 M_thrown hm H locs hP hD hS ls hl
    unfold f_Mo_block_32 at hm
    refine va_put (D := D) (ci := 11) (v := .int t1) (ty := .int) (C := "DeepChannelModel") (T := fT_Mo) (N := 40) hx hb hts u_Mo fY_Mo fK_Mo fN_Mo hown hK hP hD hS 0 rfl rfl 0 (by decide) (hts _ k_886) (fun _ h9 => h9) rfl (by decide +kernel) rfl rfl (Nat.le_of_ble_eq_true rfl) d_Mo_block_32 (fun H locs hP hD hS => ?_)
    have hP : va_P D classes (w_Mo_block cI cJ qM qM_tells qM_bytes qM_wrongs qM_marks M_depth M_fill M_half M_pattern M_craft M_begins M_firsts M_seconds M_powers M_logarithms M_forms M_elements M_mixer M_data M_waiting M_master M_counts M_line M_length M_sent M_state M_places M_least M_row M_rowSize M_differ M_rights M_lastMaster M_lastCounts M_word M_values M_system M_solved M_wrong t1 M_blocks M_tells M_bytes M_wrongs M_marks) H := hP
    have hD : va_D A (w_Mo_block cI cJ qM qM_tells qM_bytes qM_wrongs qM_marks M_depth M_fill M_half M_pattern M_craft M_begins M_firsts M_seconds M_powers M_logarithms M_forms M_elements M_mixer M_data M_waiting M_master M_counts M_line M_length M_sent M_state M_places M_least M_row M_rowSize M_differ M_rights M_lastMaster M_lastCounts M_word M_values M_system M_solved M_wrong t1 M_blocks M_tells M_bytes M_wrongs M_marks) := hD
    refine lv_aload_n hx hb d_Mo_block_35 rfl (lv_at hl 0 rfl) ?_
    refine va_get (D := D) (ci := 11) (v := .int t1) (C := "DeepChannelModel") (T := fT_Mo) (N := 40) hx hb hts u_Mo hown hK hP 0 rfl rfl 0 (by decide) (hts _ k_886) (fun _ h9 => h9) rfl d_Mo_block_36 ?_
    refine z_if hm (lv_if_le (tgt := 44) hx hb d_Mo_block_39 (by decide)) (fun hm => ?_) (fun hm => ?_)
    · refine lv_iload_n hx hb d_Mo_block_44 rfl (lv_at hl 2 rfl) ?_
      refine lv_iconst (v := (2 : Int32)) hx hb d_Mo_block_45 (by decide) ?_
      refine z_if hm (lv_icmp_ge (tgt := 69) hx hb d_Mo_block_46 (by decide)) (fun hm => ?_) (fun hm => ?_)
      · refine lv_iload_n hx hb d_Mo_block_69 rfl (lv_at hl 2 rfl) ?_
        refine lv_iconst (v := (5 : Int32)) hx hb d_Mo_block_70 (by decide) ?_
        refine z_if hm (lv_icmp_ge (tgt := 88) hx hb d_Mo_block_71 (by decide)) (fun hm => ?_) (fun hm => ?_)
        · refine lv_aload_n hx hb d_Mo_block_88 rfl (lv_at hl 0 rfl) ?_
          refine va_get (D := D) (ci := 11) (v := .ref qM_tells) (C := "DeepChannelModel") (T := fT_Mo) (N := 40) hx hb hts u_Mo hown hK hP 0 rfl rfl 32 (by decide) (hts _ k_918) (fun _ h9 => h9) rfl d_Mo_block_89 ?_
          refine lv_bipush (v := (6 : Int32)) hx hb d_Mo_block_92 (by decide) ?_
          refine lv_iload_n hx hb d_Mo_block_94 rfl (lv_at hl 1 rfl) ?_
          refine lv_imul hx hb d_Mo_block_95 ?_
          refine lv_iconst (v := (2 : Int32)) hx hb d_Mo_block_96 (by decide) ?_
          refine lv_iadd hx hb d_Mo_block_97 ?_
          refine z_iald hm hx hb hK hP 1 rfl d_Mo_block_98 (fun v1 hm => ?_)
          refine z_ifn hm (lv_if_ne (tgt := 104) hx hb d_Mo_block_99 (by decide)) (fun hm => ?_) (fun hm => ?_)
          · refine lv_iconst (v := (-1 : Int32)) hx hb d_Mo_block_102 (by decide) ?_
            cases hm
            exact z_qo hQ (z_ireti hr hx hb hlocks hK hP hD hS d_Mo_block_103)
          · refine lv_sipush (v := (256 : Int32)) hx hb d_Mo_block_104 (by decide) ?_
            refine lv_aload_n hx hb d_Mo_block_107 rfl (lv_at hl 0 rfl) ?_
            refine va_get (D := D) (ci := 11) (v := .ref qM_bytes) (C := "DeepChannelModel") (T := fT_Mo) (N := 40) hx hb hts u_Mo hown hK hP 0 rfl rfl 30 (by decide) (hts _ k_916) (fun _ h9 => h9) rfl d_Mo_block_108 ?_
            refine lv_sipush (v := (250 : Int32)) hx hb d_Mo_block_111 (by decide) ?_
            refine lv_iload_n hx hb d_Mo_block_114 rfl (lv_at hl 1 rfl) ?_
            refine lv_imul hx hb d_Mo_block_115 ?_
            refine z_iald hm hx hb hK hP 2 rfl d_Mo_block_116 (fun v2 hm => ?_)
            refine lv_imul hx hb d_Mo_block_117 ?_
            refine lv_aload_n hx hb d_Mo_block_118 rfl (lv_at hl 0 rfl) ?_
            refine va_get (D := D) (ci := 11) (v := .ref qM_bytes) (C := "DeepChannelModel") (T := fT_Mo) (N := 40) hx hb hts u_Mo hown hK hP 0 rfl rfl 30 (by decide) (hts _ k_916) (fun _ h9 => h9) rfl d_Mo_block_119 ?_
            refine lv_sipush (v := (250 : Int32)) hx hb d_Mo_block_122 (by decide) ?_
            refine lv_iload_n hx hb d_Mo_block_125 rfl (lv_at hl 1 rfl) ?_
            refine lv_imul hx hb d_Mo_block_126 ?_
            refine lv_iconst (v := (1 : Int32)) hx hb d_Mo_block_127 (by decide) ?_
            refine lv_iadd hx hb d_Mo_block_128 ?_
            refine z_iald hm hx hb hK hP 2 rfl d_Mo_block_129 (fun v3 hm => ?_)
            refine lv_iadd hx hb d_Mo_block_130 ?_
            refine z_nmi hm (fun v4 hm => ?_)
            refine lv_istore_n (lv' := [(3, .int v4), (0, .ref qM), (1, .int x1), (2, .int x2)]) hx hb d_Mo_block_131 rfl hl (by decide) rfl (fun ls hl => ?_)
            refine lv_iload_n hx hb d_Mo_block_132 rfl (lv_at hl 3 rfl) ?_
            refine lv_iconst (v := (5 : Int32)) hx hb d_Mo_block_133 (by decide) ?_
            refine z_ifn hm (lv_icmp_ne (tgt := 147) hx hb d_Mo_block_134 (by decide)) (fun hm => ?_) (fun hm => ?_)
            · refine lv_iload_n hx hb d_Mo_block_137 rfl (lv_at hl 0 rfl) ?_
              refine lv_iconst (v := (4 : Int32)) hx hb d_Mo_block_138 (by decide) ?_
              refine lv_ishr hx hb d_Mo_block_139 ?_
              refine lv_sipush (v := (1023 : Int32)) hx hb d_Mo_block_140 (by decide) ?_
              refine lv_iand hx hb d_Mo_block_143 ?_
              refine lv_goto (tgt := 175) hx hb d_Mo_block_144 (by decide) ?_
              cases hm
              exact z_qo hQ (z_ireti hr hx hb hlocks hK hP hD hS d_Mo_block_175)
            · refine lv_iload_n hx hb d_Mo_block_147 rfl (lv_at hl 3 rfl) ?_
              refine lv_bipush (v := (6 : Int32)) hx hb d_Mo_block_148 (by decide) ?_
              refine z_ifn hm (lv_icmp_ne (tgt := 162) hx hb d_Mo_block_150 (by decide)) (fun hm => ?_) (fun hm => ?_)
              · refine lv_iload_n hx hb d_Mo_block_153 rfl (lv_at hl 0 rfl) ?_
                refine lv_iconst (v := (1 : Int32)) hx hb d_Mo_block_154 (by decide) ?_
                refine lv_ishr hx hb d_Mo_block_155 ?_
                refine lv_bipush (v := (7 : Int32)) hx hb d_Mo_block_156 (by decide) ?_
                refine lv_iand hx hb d_Mo_block_158 ?_
                refine lv_goto (tgt := 175) hx hb d_Mo_block_159 (by decide) ?_
                cases hm
                exact z_qo hQ (z_ireti hr hx hb hlocks hK hP hD hS d_Mo_block_175)
              · refine lv_aload_n hx hb d_Mo_block_162 rfl (lv_at hl 1 rfl) ?_
                refine va_get (D := D) (ci := 11) (v := .ref qM_tells) (C := "DeepChannelModel") (T := fT_Mo) (N := 40) hx hb hts u_Mo hown hK hP 0 rfl rfl 32 (by decide) (hts _ k_918) (fun _ h9 => h9) rfl d_Mo_block_163 ?_
                refine lv_bipush (v := (6 : Int32)) hx hb d_Mo_block_166 (by decide) ?_
                refine lv_iload_n hx hb d_Mo_block_168 rfl (lv_at hl 2 rfl) ?_
                refine lv_imul hx hb d_Mo_block_169 ?_
                refine lv_iload_n hx hb d_Mo_block_170 rfl (lv_at hl 3 rfl) ?_
                refine lv_iadd hx hb d_Mo_block_171 ?_
                refine lv_iconst (v := (4 : Int32)) hx hb d_Mo_block_172 (by decide) ?_
                refine lv_isub hx hb d_Mo_block_173 ?_
                refine z_iald hm hx hb hK hP 1 rfl d_Mo_block_174 (fun v5 hm => ?_)
                cases hm
                exact z_qo hQ (z_ireti hr hx hb hlocks hK hP hD hS d_Mo_block_175)
        · refine lv_aload_n hx hb d_Mo_block_74 rfl (lv_at hl 0 rfl) ?_
          refine va_get (D := D) (ci := 11) (v := .ref qM_tells) (C := "DeepChannelModel") (T := fT_Mo) (N := 40) hx hb hts u_Mo hown hK hP 0 rfl rfl 32 (by decide) (hts _ k_918) (fun _ h9 => h9) rfl d_Mo_block_75 ?_
          refine lv_bipush (v := (6 : Int32)) hx hb d_Mo_block_78 (by decide) ?_
          refine lv_iload_n hx hb d_Mo_block_80 rfl (lv_at hl 1 rfl) ?_
          refine lv_imul hx hb d_Mo_block_81 ?_
          refine lv_iload_n hx hb d_Mo_block_82 rfl (lv_at hl 2 rfl) ?_
          refine lv_iadd hx hb d_Mo_block_83 ?_
          refine lv_iconst (v := (2 : Int32)) hx hb d_Mo_block_84 (by decide) ?_
          refine lv_isub hx hb d_Mo_block_85 ?_
          refine z_iald hm hx hb hK hP 1 rfl d_Mo_block_86 (fun v6 hm => ?_)
          cases hm
          exact z_qo hQ (z_ireti hr hx hb hlocks hK hP hD hS d_Mo_block_87)
      · refine lv_iload_n hx hb d_Mo_block_49 rfl (lv_at hl 2 rfl) ?_
        refine z_ifn hm (lv_if_ne (tgt := 62) hx hb d_Mo_block_50 (by decide)) (fun hm => ?_) (fun hm => ?_)
        · refine lv_aload_n hx hb d_Mo_block_53 rfl (lv_at hl 0 rfl) ?_
          refine va_get (D := D) (ci := 11) (v := .ref qM_marks) (C := "DeepChannelModel") (T := fT_Mo) (N := 40) hx hb hts u_Mo hown hK hP 0 rfl rfl 28 (by decide) (hts _ k_914) (fun _ h9 => h9) rfl d_Mo_block_54 ?_
          refine lv_iload_n hx hb d_Mo_block_57 rfl (lv_at hl 1 rfl) ?_
          refine z_iald hm hx hb hK hP 4 rfl d_Mo_block_58 (fun v8 hm => ?_)
          refine lv_goto (tgt := 68) hx hb d_Mo_block_59 (by decide) ?_
          cases hm
          exact z_qo hQ (z_ireti hr hx hb hlocks hK hP hD hS d_Mo_block_68)
        · refine lv_aload_n hx hb d_Mo_block_62 rfl (lv_at hl 0 rfl) ?_
          refine va_get (D := D) (ci := 11) (v := .ref qM_wrongs) (C := "DeepChannelModel") (T := fT_Mo) (N := 40) hx hb hts u_Mo hown hK hP 0 rfl rfl 29 (by decide) (hts _ k_915) (fun _ h9 => h9) rfl d_Mo_block_63 ?_
          refine lv_iload_n hx hb d_Mo_block_66 rfl (lv_at hl 1 rfl) ?_
          refine z_iald hm hx hb hK hP 3 rfl d_Mo_block_67 (fun v7 hm => ?_)
          cases hm
          exact z_qo hQ (z_ireti hr hx hb hlocks hK hP hD hS d_Mo_block_68)
    · refine lv_iconst (v := (0 : Int32)) hx hb d_Mo_block_42 (by decide) ?_
      cases hm
      exact z_qo hQ (z_ireti hr hx hb hlocks hK hP hD hS d_Mo_block_43)
  have T27 : ∀ (x1 : Int32) (x2 : Int32) (M_thrown : Int32), f_Mo_block_27 M_tells M_bytes M_wrongs M_marks x1 x2 M_thrown = some (rr, M_thrown') → ∀ (H : Heap) (locs : List Loc), va_P D classes (w_Mo_block cI cJ qM qM_tells qM_bytes qM_wrongs qM_marks M_depth M_fill M_half M_pattern M_craft M_begins M_firsts M_seconds M_powers M_logarithms M_forms M_elements M_mixer M_data M_waiting M_master M_counts M_line M_length M_sent M_state M_places M_least M_row M_rowSize M_differ M_rights M_lastMaster M_lastCounts M_word M_values M_system M_solved M_wrong M_thrown M_blocks M_tells M_bytes M_wrongs M_marks) H → va_D A (w_Mo_block cI cJ qM qM_tells qM_bytes qM_wrongs qM_marks M_depth M_fill M_half M_pattern M_craft M_begins M_firsts M_seconds M_powers M_logarithms M_forms M_elements M_mixer M_data M_waiting M_master M_counts M_line M_length M_sent M_state M_places M_least M_row M_rowSize M_differ M_rights M_lastMaster M_lastCounts M_word M_values M_system M_solved M_wrong M_thrown M_blocks M_tells M_bytes M_wrongs M_marks) → va_S A s.heap H locs → ∀ (ls : Array Slot), lv_has ls 4 [(0, .ref qM), (1, .int x1), (2, .int x2)] → W p l e (RM 0 0) s m args below meth c H locs 0 0 Q0 (F0 m 27 ls [.ref qM]) := by
    intro x1 x2 M_thrown hm H locs hP hD hS ls hl
    unfold f_Mo_block_27 at hm
    refine lv_iconst (v := (2 : Int32)) hx hb d_Mo_block_27 (by decide) ?_
    refine lv_goto (tgt := 32) hx hb d_Mo_block_28 (by decide) ?_
    exact T32 x1 x2 (2 : Int32) M_thrown hm _ _ hP hD hS _ (lv_sub hl [0, 1, 2] rfl)
  have T11 : ∀ (x1 : Int32) (x2 : Int32) (M_thrown : Int32), f_Mo_block_11 M_tells M_bytes M_wrongs M_marks x1 x2 M_thrown = some (rr, M_thrown') → ∀ (H : Heap) (locs : List Loc), va_P D classes (w_Mo_block cI cJ qM qM_tells qM_bytes qM_wrongs qM_marks M_depth M_fill M_half M_pattern M_craft M_begins M_firsts M_seconds M_powers M_logarithms M_forms M_elements M_mixer M_data M_waiting M_master M_counts M_line M_length M_sent M_state M_places M_least M_row M_rowSize M_differ M_rights M_lastMaster M_lastCounts M_word M_values M_system M_solved M_wrong M_thrown M_blocks M_tells M_bytes M_wrongs M_marks) H → va_D A (w_Mo_block cI cJ qM qM_tells qM_bytes qM_wrongs qM_marks M_depth M_fill M_half M_pattern M_craft M_begins M_firsts M_seconds M_powers M_logarithms M_forms M_elements M_mixer M_data M_waiting M_master M_counts M_line M_length M_sent M_state M_places M_least M_row M_rowSize M_differ M_rights M_lastMaster M_lastCounts M_word M_values M_system M_solved M_wrong M_thrown M_blocks M_tells M_bytes M_wrongs M_marks) → va_S A s.heap H locs → ∀ (ls : Array Slot), lv_has ls 4 [(0, .ref qM), (1, .int x1), (2, .int x2)] → W p l e (RM 0 0) s m args below meth c H locs 0 0 Q0 (F0 m 11 ls [.ref qM]) := by
    intro x1 x2 M_thrown hm H locs hP hD hS ls hl
    unfold f_Mo_block_11 at hm
    refine lv_iconst (v := (1 : Int32)) hx hb d_Mo_block_11 (by decide) ?_
    refine lv_goto (tgt := 32) hx hb d_Mo_block_12 (by decide) ?_
    exact T32 x1 x2 (1 : Int32) M_thrown hm _ _ hP hD hS _ (lv_sub hl [0, 1, 2] rfl)
  unfold f_Mo_block at hm
  refine lv_aload_n hx hb d_Mo_block_0 rfl (lv_at hl 0 rfl) ?_
  refine lv_iload_n hx hb d_Mo_block_1 rfl (lv_at hl 2 rfl) ?_
  refine z_if hm (lv_if_lt (tgt := 11) hx hb d_Mo_block_2 (by decide)) (fun hm => ?_) (fun hm => ?_)
  · exact T11 x1 x2 M_thrown hm _ _ hP hD hS _ (lv_sub hl [0, 1, 2] rfl)
  · refine lv_iload_n hx hb d_Mo_block_5 rfl (lv_at hl 2 rfl) ?_
    refine lv_bipush (v := (8 : Int32)) hx hb d_Mo_block_6 (by decide) ?_
    refine z_if hm (lv_icmp_le (tgt := 15) hx hb d_Mo_block_8 (by decide)) (fun hm => ?_) (fun hm => ?_)
    · refine lv_iload_n hx hb d_Mo_block_15 rfl (lv_at hl 1 rfl) ?_
      refine z_if hm (lv_if_lt (tgt := 27) hx hb d_Mo_block_16 (by decide)) (fun hm => ?_) (fun hm => ?_)
      · exact T27 x1 x2 M_thrown hm _ _ hP hD hS _ (lv_sub hl [0, 1, 2] rfl)
      · refine lv_iload_n hx hb d_Mo_block_19 rfl (lv_at hl 1 rfl) ?_
        refine lv_aload_n hx hb d_Mo_block_20 rfl (lv_at hl 0 rfl) ?_
        refine va_get (D := D) (ci := 11) (v := .int M_blocks) (C := "DeepChannelModel") (T := fT_Mo) (N := 40) hx hb hts u_Mo hown hK hP 0 rfl rfl 27 (by decide) (hts _ k_913) (fun _ h9 => h9) rfl d_Mo_block_21 ?_
        refine z_if hm (lv_icmp_lt (tgt := 31) hx hb d_Mo_block_24 (by decide)) (fun hm => ?_) (fun hm => ?_)
        · refine lv_iconst (v := (0 : Int32)) hx hb d_Mo_block_31 (by decide) ?_
          exact T32 x1 x2 (0 : Int32) M_thrown hm _ _ hP hD hS _ (lv_sub hl [0, 1, 2] rfl)
        · exact T27 x1 x2 M_thrown hm _ _ hP hD hS _ (lv_sub hl [0, 1, 2] rfl)
    · exact T11 x1 x2 M_thrown hm _ _ hP hD hS _ (lv_sub hl [0, 1, 2] rfl)
-- DeepChannelModel.word(II)I
abbrev b_Mo_word : ByteArray := prog_13_method_47_code
abbrev y_Mo_word : MethodName := ⟨"DeepChannelModel", "word", "(II)I"⟩
theorem d_Mo_word_0 : decode b_Mo_word 0 = .ok (.aload_n 0, 1) := by decide +kernel
theorem d_Mo_word_1 : decode b_Mo_word 1 = .ok (.iload_n 1, 1) := by decide +kernel
theorem d_Mo_word_2 : decode b_Mo_word 2 = .ok (.ifCond .lt 11, 3) := by decide +kernel
theorem d_Mo_word_5 : decode b_Mo_word 5 = .ok (.iload_n 1, 1) := by decide +kernel
theorem d_Mo_word_6 : decode b_Mo_word 6 = .ok (.aload_n 0, 1) := by decide +kernel
theorem d_Mo_word_7 : decode b_Mo_word 7 = .ok (.getfield 135, 3) := by decide +kernel
theorem d_Mo_word_10 : decode b_Mo_word 10 = .ok (.if_icmp .lt 7, 3) := by decide +kernel
theorem d_Mo_word_13 : decode b_Mo_word 13 = .ok (.iconst 1, 1) := by decide +kernel
theorem d_Mo_word_14 : decode b_Mo_word 14 = .ok (.goto 4, 3) := by decide +kernel
theorem d_Mo_word_17 : decode b_Mo_word 17 = .ok (.iconst 0, 1) := by decide +kernel
theorem d_Mo_word_18 : decode b_Mo_word 18 = .ok (.putfield 103, 3) := by decide +kernel
theorem d_Mo_word_21 : decode b_Mo_word 21 = .ok (.aload_n 0, 1) := by decide +kernel
theorem d_Mo_word_22 : decode b_Mo_word 22 = .ok (.getfield 103, 3) := by decide +kernel
theorem d_Mo_word_25 : decode b_Mo_word 25 = .ok (.ifCond .le 5, 3) := by decide +kernel
theorem d_Mo_word_28 : decode b_Mo_word 28 = .ok (.iconst 0, 1) := by decide +kernel
theorem d_Mo_word_29 : decode b_Mo_word 29 = .ok (.ireturn, 1) := by decide +kernel
theorem d_Mo_word_30 : decode b_Mo_word 30 = .ok (.iload_n 2, 1) := by decide +kernel
theorem d_Mo_word_31 : decode b_Mo_word 31 = .ok (.ifCond .lt 11, 3) := by decide +kernel
theorem d_Mo_word_34 : decode b_Mo_word 34 = .ok (.iload_n 2, 1) := by decide +kernel
theorem d_Mo_word_35 : decode b_Mo_word 35 = .ok (.aload_n 0, 1) := by decide +kernel
theorem d_Mo_word_36 : decode b_Mo_word 36 = .ok (.getfield 7, 3) := by decide +kernel
theorem d_Mo_word_39 : decode b_Mo_word 39 = .ok (.if_icmp .lt 7, 3) := by decide +kernel
theorem d_Mo_word_42 : decode b_Mo_word 42 = .ok (.iconst (-1), 1) := by decide +kernel
theorem d_Mo_word_43 : decode b_Mo_word 43 = .ok (.goto 14, 3) := by decide +kernel
theorem d_Mo_word_46 : decode b_Mo_word 46 = .ok (.aload_n 0, 1) := by decide +kernel
theorem d_Mo_word_47 : decode b_Mo_word 47 = .ok (.getfield 72, 3) := by decide +kernel
theorem d_Mo_word_50 : decode b_Mo_word 50 = .ok (.bipush 8, 2) := by decide +kernel
theorem d_Mo_word_52 : decode b_Mo_word 52 = .ok (.iload_n 1, 1) := by decide +kernel
theorem d_Mo_word_53 : decode b_Mo_word 53 = .ok (.imul, 1) := by decide +kernel
theorem d_Mo_word_54 : decode b_Mo_word 54 = .ok (.iload_n 2, 1) := by decide +kernel
theorem d_Mo_word_55 : decode b_Mo_word 55 = .ok (.iadd, 1) := by decide +kernel
theorem d_Mo_word_56 : decode b_Mo_word 56 = .ok (.iaload, 1) := by decide +kernel
theorem d_Mo_word_57 : decode b_Mo_word 57 = .ok (.ireturn, 1) := by decide +kernel
theorem ok_Mo_word : OKv y_Mo_word b_Mo_word 3 (some .int) "DeepChannelModel" 2 := ⟨k_1177, k_1175, k_1176, k_55, by decide +kernel, by decide +kernel, by decide +kernel⟩
abbrev w_Mo_word (cI cJ : ClassId) (qM qM_rights : Nat) (M_fill M_half M_pattern M_craft M_begins M_firsts M_seconds M_powers M_logarithms M_forms M_elements M_mixer M_data M_waiting M_master M_counts M_line M_length M_sent M_state M_places M_least M_row M_rowSize M_differ M_marks M_wrongs M_bytes M_tells M_lastMaster M_lastCounts M_word M_values M_system M_solved M_wrong : Value) (M_thrown : Int32) (M_depth : Int32) (M_blocks : Int32) (M_rights : Nat → Int32) : va_W := [(qM, .inr (11, [.int M_thrown, .int M_depth, M_fill, M_half, M_pattern, M_craft, M_begins, M_firsts, M_seconds, M_powers, M_logarithms, M_forms, M_elements, M_mixer, M_data, M_waiting, M_master, M_counts, M_line, M_length, M_sent, M_state, M_places, M_least, M_row, M_rowSize, M_differ, .int M_blocks, M_marks, M_wrongs, M_bytes, .ref qM_rights, M_tells, M_lastMaster, M_lastCounts, M_word, M_values, M_system, M_solved, M_wrong])), (qM_rights, .inl (cI, 128, .inl M_rights))]
def f_Mo_word_42  (M_thrown : Int32) : Option (Int32 × Int32) :=
  some ((-1 : Int32), M_thrown)
def f_Mo_word_18 (M_depth : Int32) (M_rights : Nat → Int32) (x1 : Int32) (x2 : Int32) (t1 : Int32) (M_thrown : Int32) : Option (Int32 × Int32) :=
  if t1 ≤ 0 then
    if x2 < 0 then
      f_Mo_word_42 t1
    else
    if x2 < M_depth then
      rdI M_rights 128 (((8 : Int32) * x1) + x2) fun v1 =>
      some (v1, t1)
    else
    f_Mo_word_42 t1
  else
  some ((0 : Int32), t1)
def f_Mo_word_13 (M_depth : Int32) (M_rights : Nat → Int32) (x1 : Int32) (x2 : Int32) (M_thrown : Int32) : Option (Int32 × Int32) :=
  f_Mo_word_18 M_depth M_rights x1 x2 (1 : Int32) M_thrown
def f_Mo_word (M_thrown : Int32) (M_depth : Int32) (M_blocks : Int32) (M_rights : Nat → Int32) (x1 : Int32) (x2 : Int32) : Option (Int32 × Int32) :=
  if x1 < 0 then
    f_Mo_word_13 M_depth M_rights x1 x2 M_thrown
  else
  if x1 < M_blocks then
    f_Mo_word_18 M_depth M_rights x1 x2 (0 : Int32) M_thrown
  else
  f_Mo_word_13 M_depth M_rights x1 x2 M_thrown
set_option maxHeartbeats 4000000 in
set_option maxRecDepth 100000 in
theorem c_Mo_word (l : Launch) (D : va_G) (cI cJ : ClassId) (tt : Nat → Nat) (qM qM_rights : Nat) (M_fill M_half M_pattern M_craft M_begins M_firsts M_seconds M_powers M_logarithms M_forms M_elements M_mixer M_data M_waiting M_master M_counts M_line M_length M_sent M_state M_places M_least M_row M_rowSize M_differ M_marks M_wrongs M_bytes M_tells M_lastMaster M_lastCounts M_word M_values M_system M_solved M_wrong : Value) (sz : Nat) (M_thrown : Int32) (M_depth : Int32) (M_blocks : Int32) (M_rights : Nat → Int32) (x1 : Int32) (x2 : Int32) (rr : Int32) (M_thrown' : Int32) (hm : f_Mo_word M_thrown M_depth M_blocks M_rights x1 x2 = some (rr, M_thrown')) : CTi l y_Mo_word b_Mo_word 3 (some .int) (RM 0 0) D cI cJ tt [.ref qM, .int x1, .int x2] (w_Mo_word cI cJ qM qM_rights M_fill M_half M_pattern M_craft M_begins M_firsts M_seconds M_powers M_logarithms M_forms M_elements M_mixer M_data M_waiting M_master M_counts M_line M_length M_sent M_state M_places M_least M_row M_rowSize M_differ M_marks M_wrongs M_bytes M_tells M_lastMaster M_lastCounts M_word M_values M_system M_solved M_wrong M_thrown M_depth M_blocks M_rights) (w_Mo_word cI cJ qM qM_rights M_fill M_half M_pattern M_craft M_begins M_firsts M_seconds M_powers M_logarithms M_forms M_elements M_mixer M_data M_waiting M_master M_counts M_line M_length M_sent M_state M_places M_least M_row M_rowSize M_differ M_marks M_wrongs M_bytes M_tells M_lastMaster M_lastCounts M_word M_values M_system M_solved M_wrong M_thrown' M_depth M_blocks M_rights) sz rr := by
  refine Met.ofW (cc := b_Mo_word) (maxL := 3) (ret := (some .int)) (by decide) rfl ?_
  intro p e s m args below meth c s₁ B hml hv
  obtain ⟨hargs, hsz, hP, hK, hD0, hE⟩ := hv
  have hx := B.exec
  have hb := B.bytes
  have hr := B.returns
  have hts : ∀ w ∈ TB, w.before args s = true := z_mV s (atoms_spec (ws := WD y_Mo_word b_Mo_word 3 (some .int)) B.pre)
  have hown : s.vm.findClass "DeepChannelModel" = some m.cls := findClass_of_methodNamed B.named
  have hlocks := B.notSynchronized
  subst hsz
  have hD := hD0.self (sz := s.heap.size)
  generalize hAe : va_A (w_Mo_word cI cJ qM qM_rights M_fill M_half M_pattern M_craft M_begins M_firsts M_seconds M_powers M_logarithms M_forms M_elements M_mixer M_data M_waiting M_master M_counts M_line M_length M_sent M_state M_places M_least M_row M_rowSize M_differ M_marks M_wrongs M_bytes M_tells M_lastMaster M_lastCounts M_word M_values M_system M_solved M_wrong M_thrown M_depth M_blocks M_rights) s.heap.size = A at hD hE ⊢
  have hA : ∀ q : Nat, s.heap.size ≤ q → A q := fun q h => by rw [← hAe]; exact Or.inr h
  have hS : va_S A s.heap s.heap [] := va_S.rf
  refine z_entry (vs := [.ref qM, .int x1, .int x2]) hargs (Nat.le_of_ble_eq_true rfl) (fun ls hl => ?_)
  have hl : lv_has ls 3 [(0, .ref qM), (1, .int x1), (2, .int x2)] := hl
  show W p l e (RM 0 0) s m args below meth c s.heap [] 0 0 _ _
  refine z_qi (fun Q0 hQ => ?_)
  have F : CallFix p m c b_Mo_word 3 s args TB "DeepChannelModel" := ⟨hx, hb, hml, hown, hts⟩
  have T42 : ∀ (M_thrown : Int32), f_Mo_word_42 M_thrown = some (rr, M_thrown') → ∀ (H : Heap) (locs : List Loc), va_P D classes (w_Mo_word cI cJ qM qM_rights M_fill M_half M_pattern M_craft M_begins M_firsts M_seconds M_powers M_logarithms M_forms M_elements M_mixer M_data M_waiting M_master M_counts M_line M_length M_sent M_state M_places M_least M_row M_rowSize M_differ M_marks M_wrongs M_bytes M_tells M_lastMaster M_lastCounts M_word M_values M_system M_solved M_wrong M_thrown M_depth M_blocks M_rights) H → va_D A (w_Mo_word cI cJ qM qM_rights M_fill M_half M_pattern M_craft M_begins M_firsts M_seconds M_powers M_logarithms M_forms M_elements M_mixer M_data M_waiting M_master M_counts M_line M_length M_sent M_state M_places M_least M_row M_rowSize M_differ M_marks M_wrongs M_bytes M_tells M_lastMaster M_lastCounts M_word M_values M_system M_solved M_wrong M_thrown M_depth M_blocks M_rights) → va_S A s.heap H locs → ∀ (ls : Array Slot), lv_has ls 3 [] → W p l e (RM 0 0) s m args below meth c H locs 0 0 Q0 (F0 m 42 ls []) := by
    intro M_thrown hm H locs hP hD hS ls hl
    unfold f_Mo_word_42 at hm
    refine lv_iconst (v := (-1 : Int32)) hx hb d_Mo_word_42 (by decide) ?_
    refine lv_goto (tgt := 57) hx hb d_Mo_word_43 (by decide) ?_
    cases hm
    exact z_qo hQ (z_ireti hr hx hb hlocks hK hP hD hS d_Mo_word_57)
  have T18 : ∀ (x1 : Int32) (x2 : Int32) (t1 : Int32) (M_thrown : Int32), f_Mo_word_18 M_depth M_rights x1 x2 t1 M_thrown = some (rr, M_thrown') → ∀ (H : Heap) (locs : List Loc), va_P D classes (w_Mo_word cI cJ qM qM_rights M_fill M_half M_pattern M_craft M_begins M_firsts M_seconds M_powers M_logarithms M_forms M_elements M_mixer M_data M_waiting M_master M_counts M_line M_length M_sent M_state M_places M_least M_row M_rowSize M_differ M_marks M_wrongs M_bytes M_tells M_lastMaster M_lastCounts M_word M_values M_system M_solved M_wrong M_thrown M_depth M_blocks M_rights) H → va_D A (w_Mo_word cI cJ qM qM_rights M_fill M_half M_pattern M_craft M_begins M_firsts M_seconds M_powers M_logarithms M_forms M_elements M_mixer M_data M_waiting M_master M_counts M_line M_length M_sent M_state M_places M_least M_row M_rowSize M_differ M_marks M_wrongs M_bytes M_tells M_lastMaster M_lastCounts M_word M_values M_system M_solved M_wrong M_thrown M_depth M_blocks M_rights) → va_S A s.heap H locs → ∀ (ls : Array Slot), lv_has ls 3 [(0, .ref qM), (1, .int x1), (2, .int x2)] → W p l e (RM 0 0) s m args below meth c H locs 0 0 Q0 (F0 m 18 ls [.int t1, .ref qM]) := by
    intro x1 x2 t1 M_thrown hm H locs hP hD hS ls hl
    unfold f_Mo_word_18 at hm
    refine va_put (D := D) (ci := 11) (v := .int t1) (ty := .int) (C := "DeepChannelModel") (T := fT_Mo) (N := 40) hx hb hts u_Mo fY_Mo fK_Mo fN_Mo hown hK hP hD hS 0 rfl rfl 0 (by decide) (hts _ k_886) (fun _ h9 => h9) rfl (by decide +kernel) rfl rfl (Nat.le_of_ble_eq_true rfl) d_Mo_word_18 (fun H locs hP hD hS => ?_)
    have hP : va_P D classes (w_Mo_word cI cJ qM qM_rights M_fill M_half M_pattern M_craft M_begins M_firsts M_seconds M_powers M_logarithms M_forms M_elements M_mixer M_data M_waiting M_master M_counts M_line M_length M_sent M_state M_places M_least M_row M_rowSize M_differ M_marks M_wrongs M_bytes M_tells M_lastMaster M_lastCounts M_word M_values M_system M_solved M_wrong t1 M_depth M_blocks M_rights) H := hP
    have hD : va_D A (w_Mo_word cI cJ qM qM_rights M_fill M_half M_pattern M_craft M_begins M_firsts M_seconds M_powers M_logarithms M_forms M_elements M_mixer M_data M_waiting M_master M_counts M_line M_length M_sent M_state M_places M_least M_row M_rowSize M_differ M_marks M_wrongs M_bytes M_tells M_lastMaster M_lastCounts M_word M_values M_system M_solved M_wrong t1 M_depth M_blocks M_rights) := hD
    refine lv_aload_n hx hb d_Mo_word_21 rfl (lv_at hl 0 rfl) ?_
    refine va_get (D := D) (ci := 11) (v := .int t1) (C := "DeepChannelModel") (T := fT_Mo) (N := 40) hx hb hts u_Mo hown hK hP 0 rfl rfl 0 (by decide) (hts _ k_886) (fun _ h9 => h9) rfl d_Mo_word_22 ?_
    refine z_if hm (lv_if_le (tgt := 30) hx hb d_Mo_word_25 (by decide)) (fun hm => ?_) (fun hm => ?_)
    · refine lv_iload_n hx hb d_Mo_word_30 rfl (lv_at hl 2 rfl) ?_
      refine z_if hm (lv_if_lt (tgt := 42) hx hb d_Mo_word_31 (by decide)) (fun hm => ?_) (fun hm => ?_)
      · exact T42 t1 hm _ _ hP hD hS _ (lv_sub hl [] rfl)
      · refine lv_iload_n hx hb d_Mo_word_34 rfl (lv_at hl 2 rfl) ?_
        refine lv_aload_n hx hb d_Mo_word_35 rfl (lv_at hl 0 rfl) ?_
        refine va_get (D := D) (ci := 11) (v := .int M_depth) (C := "DeepChannelModel") (T := fT_Mo) (N := 40) hx hb hts u_Mo hown hK hP 0 rfl rfl 1 (by decide) (hts _ k_887) (fun _ h9 => h9) rfl d_Mo_word_36 ?_
        refine z_if hm (lv_icmp_lt (tgt := 46) hx hb d_Mo_word_39 (by decide)) (fun hm => ?_) (fun hm => ?_)
        · refine lv_aload_n hx hb d_Mo_word_46 rfl (lv_at hl 0 rfl) ?_
          refine va_get (D := D) (ci := 11) (v := .ref qM_rights) (C := "DeepChannelModel") (T := fT_Mo) (N := 40) hx hb hts u_Mo hown hK hP 0 rfl rfl 31 (by decide) (hts _ k_917) (fun _ h9 => h9) rfl d_Mo_word_47 ?_
          refine lv_bipush (v := (8 : Int32)) hx hb d_Mo_word_50 (by decide) ?_
          refine lv_iload_n hx hb d_Mo_word_52 rfl (lv_at hl 1 rfl) ?_
          refine lv_imul hx hb d_Mo_word_53 ?_
          refine lv_iload_n hx hb d_Mo_word_54 rfl (lv_at hl 2 rfl) ?_
          refine lv_iadd hx hb d_Mo_word_55 ?_
          refine z_iald hm hx hb hK hP 1 rfl d_Mo_word_56 (fun v1 hm => ?_)
          cases hm
          exact z_qo hQ (z_ireti hr hx hb hlocks hK hP hD hS d_Mo_word_57)
        · exact T42 t1 hm _ _ hP hD hS _ (lv_sub hl [] rfl)
    · refine lv_iconst (v := (0 : Int32)) hx hb d_Mo_word_28 (by decide) ?_
      cases hm
      exact z_qo hQ (z_ireti hr hx hb hlocks hK hP hD hS d_Mo_word_29)
  have T13 : ∀ (x1 : Int32) (x2 : Int32) (M_thrown : Int32), f_Mo_word_13 M_depth M_rights x1 x2 M_thrown = some (rr, M_thrown') → ∀ (H : Heap) (locs : List Loc), va_P D classes (w_Mo_word cI cJ qM qM_rights M_fill M_half M_pattern M_craft M_begins M_firsts M_seconds M_powers M_logarithms M_forms M_elements M_mixer M_data M_waiting M_master M_counts M_line M_length M_sent M_state M_places M_least M_row M_rowSize M_differ M_marks M_wrongs M_bytes M_tells M_lastMaster M_lastCounts M_word M_values M_system M_solved M_wrong M_thrown M_depth M_blocks M_rights) H → va_D A (w_Mo_word cI cJ qM qM_rights M_fill M_half M_pattern M_craft M_begins M_firsts M_seconds M_powers M_logarithms M_forms M_elements M_mixer M_data M_waiting M_master M_counts M_line M_length M_sent M_state M_places M_least M_row M_rowSize M_differ M_marks M_wrongs M_bytes M_tells M_lastMaster M_lastCounts M_word M_values M_system M_solved M_wrong M_thrown M_depth M_blocks M_rights) → va_S A s.heap H locs → ∀ (ls : Array Slot), lv_has ls 3 [(0, .ref qM), (1, .int x1), (2, .int x2)] → W p l e (RM 0 0) s m args below meth c H locs 0 0 Q0 (F0 m 13 ls [.ref qM]) := by
    intro x1 x2 M_thrown hm H locs hP hD hS ls hl
    unfold f_Mo_word_13 at hm
    refine lv_iconst (v := (1 : Int32)) hx hb d_Mo_word_13 (by decide) ?_
    refine lv_goto (tgt := 18) hx hb d_Mo_word_14 (by decide) ?_
    exact T18 x1 x2 (1 : Int32) M_thrown hm _ _ hP hD hS _ (lv_sub hl [0, 1, 2] rfl)
  unfold f_Mo_word at hm
  refine lv_aload_n hx hb d_Mo_word_0 rfl (lv_at hl 0 rfl) ?_
  refine lv_iload_n hx hb d_Mo_word_1 rfl (lv_at hl 1 rfl) ?_
  refine z_if hm (lv_if_lt (tgt := 13) hx hb d_Mo_word_2 (by decide)) (fun hm => ?_) (fun hm => ?_)
  · exact T13 x1 x2 M_thrown hm _ _ hP hD hS _ (lv_sub hl [0, 1, 2] rfl)
  · refine lv_iload_n hx hb d_Mo_word_5 rfl (lv_at hl 1 rfl) ?_
    refine lv_aload_n hx hb d_Mo_word_6 rfl (lv_at hl 0 rfl) ?_
    refine va_get (D := D) (ci := 11) (v := .int M_blocks) (C := "DeepChannelModel") (T := fT_Mo) (N := 40) hx hb hts u_Mo hown hK hP 0 rfl rfl 27 (by decide) (hts _ k_913) (fun _ h9 => h9) rfl d_Mo_word_7 ?_
    refine z_if hm (lv_icmp_lt (tgt := 17) hx hb d_Mo_word_10 (by decide)) (fun hm => ?_) (fun hm => ?_)
    · refine lv_iconst (v := (0 : Int32)) hx hb d_Mo_word_17 (by decide) ?_
      exact T18 x1 x2 (0 : Int32) M_thrown hm _ _ hP hD hS _ (lv_sub hl [0, 1, 2] rfl)
    · exact T13 x1 x2 M_thrown hm _ _ hP hD hS _ (lv_sub hl [0, 1, 2] rfl)
-- DeepChannelModel.frame(II)J
abbrev b_Mo_frame : ByteArray := prog_13_method_48_code
abbrev y_Mo_frame : MethodName := ⟨"DeepChannelModel", "frame", "(II)J"⟩
theorem d_Mo_frame_0 : decode b_Mo_frame 0 = .ok (.aload_n 0, 1) := by decide +kernel
theorem d_Mo_frame_1 : decode b_Mo_frame 1 = .ok (.iload_n 1, 1) := by decide +kernel
theorem d_Mo_frame_2 : decode b_Mo_frame 2 = .ok (.ifCond .lt 11, 3) := by decide +kernel
theorem d_Mo_frame_5 : decode b_Mo_frame 5 = .ok (.iload_n 1, 1) := by decide +kernel
theorem d_Mo_frame_6 : decode b_Mo_frame 6 = .ok (.aload_n 0, 1) := by decide +kernel
theorem d_Mo_frame_7 : decode b_Mo_frame 7 = .ok (.getfield 135, 3) := by decide +kernel
theorem d_Mo_frame_10 : decode b_Mo_frame 10 = .ok (.if_icmp .lt 7, 3) := by decide +kernel
theorem d_Mo_frame_13 : decode b_Mo_frame 13 = .ok (.iconst 1, 1) := by decide +kernel
theorem d_Mo_frame_14 : decode b_Mo_frame 14 = .ok (.goto 4, 3) := by decide +kernel
theorem d_Mo_frame_17 : decode b_Mo_frame 17 = .ok (.iconst 0, 1) := by decide +kernel
theorem d_Mo_frame_18 : decode b_Mo_frame 18 = .ok (.putfield 103, 3) := by decide +kernel
theorem d_Mo_frame_21 : decode b_Mo_frame 21 = .ok (.lconst 0, 1) := by decide +kernel
theorem d_Mo_frame_22 : decode b_Mo_frame 22 = .ok (.lstore_n 3, 1) := by decide +kernel
theorem d_Mo_frame_23 : decode b_Mo_frame 23 = .ok (.iconst 0, 1) := by decide +kernel
theorem d_Mo_frame_24 : decode b_Mo_frame 24 = .ok (.istore 5, 2) := by decide +kernel
theorem d_Mo_frame_26 : decode b_Mo_frame 26 = .ok (.iload 5, 2) := by decide +kernel
theorem d_Mo_frame_28 : decode b_Mo_frame 28 = .ok (.bipush 8, 2) := by decide +kernel
theorem d_Mo_frame_30 : decode b_Mo_frame 30 = .ok (.if_icmp .ge 66, 3) := by decide +kernel
theorem d_Mo_frame_33 : decode b_Mo_frame 33 = .ok (.aload_n 0, 1) := by decide +kernel
theorem d_Mo_frame_34 : decode b_Mo_frame 34 = .ok (.getfield 103, 3) := by decide +kernel
theorem d_Mo_frame_37 : decode b_Mo_frame 37 = .ok (.ifCond .ne 59, 3) := by decide +kernel
theorem d_Mo_frame_40 : decode b_Mo_frame 40 = .ok (.iload_n 2, 1) := by decide +kernel
theorem d_Mo_frame_41 : decode b_Mo_frame 41 = .ok (.i2l, 1) := by decide +kernel
theorem d_Mo_frame_42 : decode b_Mo_frame 42 = .ok (.iload 5, 2) := by decide +kernel
theorem d_Mo_frame_44 : decode b_Mo_frame 44 = .ok (.i2l, 1) := by decide +kernel
theorem d_Mo_frame_45 : decode b_Mo_frame 45 = .ok (.ladd, 1) := by decide +kernel
theorem d_Mo_frame_46 : decode b_Mo_frame 46 = .ok (.lstore 6, 2) := by decide +kernel
theorem d_Mo_frame_48 : decode b_Mo_frame 48 = .ok (.lload 6, 2) := by decide +kernel
theorem d_Mo_frame_50 : decode b_Mo_frame 50 = .ok (.lconst 0, 1) := by decide +kernel
theorem d_Mo_frame_51 : decode b_Mo_frame 51 = .ok (.lcmp, 1) := by decide +kernel
theorem d_Mo_frame_52 : decode b_Mo_frame 52 = .ok (.ifCond .lt 38, 3) := by decide +kernel
theorem d_Mo_frame_55 : decode b_Mo_frame 55 = .ok (.lload 6, 2) := by decide +kernel
theorem d_Mo_frame_57 : decode b_Mo_frame 57 = .ok (.aload_n 0, 1) := by decide +kernel
theorem d_Mo_frame_58 : decode b_Mo_frame 58 = .ok (.invokevirtual 148, 3) := by decide +kernel
theorem d_Mo_frame_61 : decode b_Mo_frame 61 = .ok (.i2l, 1) := by decide +kernel
theorem d_Mo_frame_62 : decode b_Mo_frame 62 = .ok (.lcmp, 1) := by decide +kernel
theorem d_Mo_frame_63 : decode b_Mo_frame 63 = .ok (.ifCond .ge 27, 3) := by decide +kernel
theorem d_Mo_frame_66 : decode b_Mo_frame 66 = .ok (.lload_n 3, 1) := by decide +kernel
theorem d_Mo_frame_67 : decode b_Mo_frame 67 = .ok (.aload_n 0, 1) := by decide +kernel
theorem d_Mo_frame_68 : decode b_Mo_frame 68 = .ok (.getfield 69, 3) := by decide +kernel
theorem d_Mo_frame_71 : decode b_Mo_frame 71 = .ok (.sipush 250, 3) := by decide +kernel
theorem d_Mo_frame_74 : decode b_Mo_frame 74 = .ok (.iload_n 1, 1) := by decide +kernel
theorem d_Mo_frame_75 : decode b_Mo_frame 75 = .ok (.imul, 1) := by decide +kernel
theorem d_Mo_frame_76 : decode b_Mo_frame 76 = .ok (.lload 6, 2) := by decide +kernel
theorem d_Mo_frame_78 : decode b_Mo_frame 78 = .ok (.l2i, 1) := by decide +kernel
theorem d_Mo_frame_79 : decode b_Mo_frame 79 = .ok (.iadd, 1) := by decide +kernel
theorem d_Mo_frame_80 : decode b_Mo_frame 80 = .ok (.iaload, 1) := by decide +kernel
theorem d_Mo_frame_81 : decode b_Mo_frame 81 = .ok (.i2l, 1) := by decide +kernel
theorem d_Mo_frame_82 : decode b_Mo_frame 82 = .ok (.bipush 8, 2) := by decide +kernel
theorem d_Mo_frame_84 : decode b_Mo_frame 84 = .ok (.iload 5, 2) := by decide +kernel
theorem d_Mo_frame_86 : decode b_Mo_frame 86 = .ok (.imul, 1) := by decide +kernel
theorem d_Mo_frame_87 : decode b_Mo_frame 87 = .ok (.lshl, 1) := by decide +kernel
theorem d_Mo_frame_88 : decode b_Mo_frame 88 = .ok (.lor, 1) := by decide +kernel
theorem d_Mo_frame_89 : decode b_Mo_frame 89 = .ok (.lstore_n 3, 1) := by decide +kernel
theorem d_Mo_frame_90 : decode b_Mo_frame 90 = .ok (.iinc 5 1, 3) := by decide +kernel
theorem d_Mo_frame_93 : decode b_Mo_frame 93 = .ok (.goto (-67), 3) := by decide +kernel
theorem d_Mo_frame_96 : decode b_Mo_frame 96 = .ok (.lload_n 3, 1) := by decide +kernel
theorem d_Mo_frame_97 : decode b_Mo_frame 97 = .ok (.lreturn, 1) := by decide +kernel
theorem ok_Mo_frame : OKv y_Mo_frame b_Mo_frame 8 (some .long) "DeepChannelModel" 2 := ⟨k_1181, k_1179, k_1180, k_55, by decide +kernel, by decide +kernel, by decide +kernel⟩
abbrev w_Mo_frame (cI cJ : ClassId) (qM qM_bytes : Nat) (M_pattern M_craft M_begins M_firsts M_seconds M_powers M_logarithms M_forms M_elements M_mixer M_data M_waiting M_master M_counts M_line M_length M_sent M_state M_places M_least M_row M_rowSize M_differ M_marks M_wrongs M_rights M_tells M_lastMaster M_lastCounts M_word M_values M_system M_solved M_wrong : Value) (M_thrown : Int32) (M_depth : Int32) (M_fill : Int32) (M_half : Int32) (M_blocks : Int32) (M_bytes : Nat → Int32) : va_W := [(qM, .inr (11, [.int M_thrown, .int M_depth, .int M_fill, .int M_half, M_pattern, M_craft, M_begins, M_firsts, M_seconds, M_powers, M_logarithms, M_forms, M_elements, M_mixer, M_data, M_waiting, M_master, M_counts, M_line, M_length, M_sent, M_state, M_places, M_least, M_row, M_rowSize, M_differ, .int M_blocks, M_marks, M_wrongs, .ref qM_bytes, M_rights, M_tells, M_lastMaster, M_lastCounts, M_word, M_values, M_system, M_solved, M_wrong])), (qM_bytes, .inl (cI, 4000, .inl M_bytes))]
def f_Mo_frame_90 (kh26 : Int32 → Int32 → Int64 → Int32 → Int32 → Option (Int64 × Int32)) (x1 : Int32) (x2 : Int32) (x3 : Int64) (x5 : Int32) (M_thrown : Int32) : Option (Int64 × Int32) :=
  nm (x5 + (1 : Int32)) fun v1 =>
  kh26 x1 x2 x3 v1 M_thrown
def f_Mo_frame_26_b (M_depth : Int32) (M_fill : Int32) (M_half : Int32) (M_bytes : Nat → Int32) (kh26 : Int32 → Int32 → Int64 → Int32 → Int32 → Option (Int64 × Int32)) (x1 : Int32) (x2 : Int32) (x3 : Int64) (x5 : Int32) (M_thrown : Int32) : Option (Int64 × Int32) :=
  if (8 : Int32) ≤ x5 then
    some (x3, M_thrown)
  else
  if M_thrown = 0 then
    nm (x2.toInt64 + x5.toInt64) fun v2 =>
    if (lg_cmp v2 (0 : Int64)) < 0 then
      f_Mo_frame_90 kh26 x1 x2 x3 x5 M_thrown
    else
    bd (f_Mo_frameSize M_depth M_fill M_half) fun u4 =>
    nm u4 fun r3 =>
    if 0 ≤ (lg_cmp v2 r3.toInt64) then
      f_Mo_frame_90 kh26 x1 x2 x3 x5 M_thrown
    else
    rdI M_bytes 4000 (((250 : Int32) * x1) + v2.toInt32) fun v5 =>
    nm (x3 ||| (v5.toInt64 <<< (((8 : Int32) * x5).toInt64 &&& 63))) fun v6 =>
    f_Mo_frame_90 kh26 x1 x2 v6 x5 M_thrown
  else
  some (x3, M_thrown)
def f_Mo_frame_26 (M_depth : Int32) (M_fill : Int32) (M_half : Int32) (M_bytes : Nat → Int32) : Nat → Int32 → Int32 → Int64 → Int32 → Int32 → Option (Int64 × Int32)
  | 0 => fun _ _ _ _ _ => none
  | n + 1 => fun x1 x2 x3 x5 M_thrown => f_Mo_frame_26_b M_depth M_fill M_half M_bytes (f_Mo_frame_26 M_depth M_fill M_half M_bytes n) x1 x2 x3 x5 M_thrown
def f_Mo_frame_18 (M_depth : Int32) (M_fill : Int32) (M_half : Int32) (M_bytes : Nat → Int32) (x1 : Int32) (x2 : Int32) (t1 : Int32) (M_thrown : Int32) : Option (Int64 × Int32) :=
  f_Mo_frame_26 M_depth M_fill M_half M_bytes 10000 x1 x2 (0 : Int64) (0 : Int32) t1
def f_Mo_frame_13 (M_depth : Int32) (M_fill : Int32) (M_half : Int32) (M_bytes : Nat → Int32) (x1 : Int32) (x2 : Int32) (M_thrown : Int32) : Option (Int64 × Int32) :=
  f_Mo_frame_18 M_depth M_fill M_half M_bytes x1 x2 (1 : Int32) M_thrown
def f_Mo_frame (M_thrown : Int32) (M_depth : Int32) (M_fill : Int32) (M_half : Int32) (M_blocks : Int32) (M_bytes : Nat → Int32) (x1 : Int32) (x2 : Int32) : Option (Int64 × Int32) :=
  if x1 < 0 then
    f_Mo_frame_13 M_depth M_fill M_half M_bytes x1 x2 M_thrown
  else
  if x1 < M_blocks then
    f_Mo_frame_18 M_depth M_fill M_half M_bytes x1 x2 (0 : Int32) M_thrown
  else
  f_Mo_frame_13 M_depth M_fill M_half M_bytes x1 x2 M_thrown
set_option maxHeartbeats 4000000 in
set_option maxRecDepth 100000 in
theorem c_Mo_frame (l : Launch) (D : va_G) (cI cJ : ClassId) (tt : Nat → Nat) (qM qM_bytes : Nat) (M_pattern M_craft M_begins M_firsts M_seconds M_powers M_logarithms M_forms M_elements M_mixer M_data M_waiting M_master M_counts M_line M_length M_sent M_state M_places M_least M_row M_rowSize M_differ M_marks M_wrongs M_rights M_tells M_lastMaster M_lastCounts M_word M_values M_system M_solved M_wrong : Value) (sz : Nat) (M_thrown : Int32) (M_depth : Int32) (M_fill : Int32) (M_half : Int32) (M_blocks : Int32) (M_bytes : Nat → Int32) (x1 : Int32) (x2 : Int32) (rr : Int64) (M_thrown' : Int32) (hm : f_Mo_frame M_thrown M_depth M_fill M_half M_blocks M_bytes x1 x2 = some (rr, M_thrown')) : CTl l y_Mo_frame b_Mo_frame 8 (some .long) (RM 2 40) D cI cJ tt [.ref qM, .int x1, .int x2] (w_Mo_frame cI cJ qM qM_bytes M_pattern M_craft M_begins M_firsts M_seconds M_powers M_logarithms M_forms M_elements M_mixer M_data M_waiting M_master M_counts M_line M_length M_sent M_state M_places M_least M_row M_rowSize M_differ M_marks M_wrongs M_rights M_tells M_lastMaster M_lastCounts M_word M_values M_system M_solved M_wrong M_thrown M_depth M_fill M_half M_blocks M_bytes) (w_Mo_frame cI cJ qM qM_bytes M_pattern M_craft M_begins M_firsts M_seconds M_powers M_logarithms M_forms M_elements M_mixer M_data M_waiting M_master M_counts M_line M_length M_sent M_state M_places M_least M_row M_rowSize M_differ M_marks M_wrongs M_rights M_tells M_lastMaster M_lastCounts M_word M_values M_system M_solved M_wrong M_thrown' M_depth M_fill M_half M_blocks M_bytes) sz rr := by
  refine Met.ofW (cc := b_Mo_frame) (maxL := 8) (ret := (some .long)) (by decide) rfl ?_
  intro p e s m args below meth c s₁ B hml hv
  obtain ⟨hargs, hsz, hP, hK, hD0, hE⟩ := hv
  have hx := B.exec
  have hb := B.bytes
  have hr := B.returns
  have hts : ∀ w ∈ TB, w.before args s = true := z_mV s (atoms_spec (ws := WD y_Mo_frame b_Mo_frame 8 (some .long)) B.pre)
  have hown : s.vm.findClass "DeepChannelModel" = some m.cls := findClass_of_methodNamed B.named
  have hlocks := B.notSynchronized
  subst hsz
  have hD := hD0.self (sz := s.heap.size)
  generalize hAe : va_A (w_Mo_frame cI cJ qM qM_bytes M_pattern M_craft M_begins M_firsts M_seconds M_powers M_logarithms M_forms M_elements M_mixer M_data M_waiting M_master M_counts M_line M_length M_sent M_state M_places M_least M_row M_rowSize M_differ M_marks M_wrongs M_rights M_tells M_lastMaster M_lastCounts M_word M_values M_system M_solved M_wrong M_thrown M_depth M_fill M_half M_blocks M_bytes) s.heap.size = A at hD hE ⊢
  have hA : ∀ q : Nat, s.heap.size ≤ q → A q := fun q h => by rw [← hAe]; exact Or.inr h
  have hS : va_S A s.heap s.heap [] := va_S.rf
  refine z_entry (vs := [.ref qM, .int x1, .int x2]) hargs (Nat.le_of_ble_eq_true rfl) (fun ls hl => ?_)
  have hl : lv_has ls 8 [(0, .ref qM), (1, .int x1), (2, .int x2)] := hl
  show W p l e (RM 2 40) s m args below meth c s.heap [] 0 0 _ _
  refine z_qi (fun Q0 hQ => ?_)
  have F : CallFix p m c b_Mo_frame 8 s args TB "DeepChannelModel" := ⟨hx, hb, hml, hown, hts⟩
  have T26 : ∀ (n26 : Nat) (x1 : Int32) (x2 : Int32) (x3 : Int64) (x5 : Int32) (M_thrown : Int32), f_Mo_frame_26 M_depth M_fill M_half M_bytes n26 x1 x2 x3 x5 M_thrown = some (rr, M_thrown') → ∀ (H : Heap) (locs : List Loc), va_P D classes (w_Mo_frame cI cJ qM qM_bytes M_pattern M_craft M_begins M_firsts M_seconds M_powers M_logarithms M_forms M_elements M_mixer M_data M_waiting M_master M_counts M_line M_length M_sent M_state M_places M_least M_row M_rowSize M_differ M_marks M_wrongs M_rights M_tells M_lastMaster M_lastCounts M_word M_values M_system M_solved M_wrong M_thrown M_depth M_fill M_half M_blocks M_bytes) H → va_D A (w_Mo_frame cI cJ qM qM_bytes M_pattern M_craft M_begins M_firsts M_seconds M_powers M_logarithms M_forms M_elements M_mixer M_data M_waiting M_master M_counts M_line M_length M_sent M_state M_places M_least M_row M_rowSize M_differ M_marks M_wrongs M_rights M_tells M_lastMaster M_lastCounts M_word M_values M_system M_solved M_wrong M_thrown M_depth M_fill M_half M_blocks M_bytes) → va_S A s.heap H locs → ∀ (ls : Array Slot), lv_has ls 8 [(0, .ref qM), (1, .int x1), (2, .int x2), (3, .long x3), (5, .int x5)] → W p l e (RM 2 40) s m args below meth c H locs 0 0 Q0 (F0 m 26 ls []) := by
    intro n26
    induction n26 with
    | zero => intro x1 x2 x3 x5 M_thrown hm; cases hm
    | succ n26 ih26 =>
      have T90 : ∀ (x1 : Int32) (x2 : Int32) (x3 : Int64) (x5 : Int32) (M_thrown : Int32), f_Mo_frame_90 (f_Mo_frame_26 M_depth M_fill M_half M_bytes n26) x1 x2 x3 x5 M_thrown = some (rr, M_thrown') → ∀ (H : Heap) (locs : List Loc), va_P D classes (w_Mo_frame cI cJ qM qM_bytes M_pattern M_craft M_begins M_firsts M_seconds M_powers M_logarithms M_forms M_elements M_mixer M_data M_waiting M_master M_counts M_line M_length M_sent M_state M_places M_least M_row M_rowSize M_differ M_marks M_wrongs M_rights M_tells M_lastMaster M_lastCounts M_word M_values M_system M_solved M_wrong M_thrown M_depth M_fill M_half M_blocks M_bytes) H → va_D A (w_Mo_frame cI cJ qM qM_bytes M_pattern M_craft M_begins M_firsts M_seconds M_powers M_logarithms M_forms M_elements M_mixer M_data M_waiting M_master M_counts M_line M_length M_sent M_state M_places M_least M_row M_rowSize M_differ M_marks M_wrongs M_rights M_tells M_lastMaster M_lastCounts M_word M_values M_system M_solved M_wrong M_thrown M_depth M_fill M_half M_blocks M_bytes) → va_S A s.heap H locs → ∀ (ls : Array Slot), lv_has ls 8 [(0, .ref qM), (1, .int x1), (2, .int x2), (3, .long x3), (5, .int x5)] → W p l e (RM 2 40) s m args below meth c H locs 0 0 Q0 (F0 m 90 ls []) := by
        intro x1 x2 x3 x5 M_thrown hm H locs hP hD hS ls hl
        unfold f_Mo_frame_90 at hm
        obtain ⟨v1, ev, hm⟩ := nm_el hm
        refine lv_iinc (v := v1) (lv' := [(5, .int v1), (0, .ref qM), (1, .int x1), (2, .int x2), (3, .long x3)]) hx hb d_Mo_frame_90 hl (k := 4) rfl (by rw [ev]; rfl) (by decide) rfl (fun ls hl => ?_)
        refine lv_goto (tgt := 26) hx hb d_Mo_frame_93 (by decide) ?_
        exact ih26 x1 x2 x3 v1 M_thrown hm _ _ hP hD hS _ (lv_sub hl [1, 2, 3, 4, 0] rfl)
      intro x1 x2 x3 x5 M_thrown hm H locs hP hD hS ls hl
      replace hm : f_Mo_frame_26_b M_depth M_fill M_half M_bytes (f_Mo_frame_26 M_depth M_fill M_half M_bytes n26) x1 x2 x3 x5 M_thrown = some (rr, M_thrown') := hm
      unfold f_Mo_frame_26_b at hm
      refine lv_iload hx hb d_Mo_frame_26 (lv_at hl 4 rfl) ?_
      refine lv_bipush (v := (8 : Int32)) hx hb d_Mo_frame_28 (by decide) ?_
      refine z_if hm (lv_icmp_ge (tgt := 96) hx hb d_Mo_frame_30 (by decide)) (fun hm => ?_) (fun hm => ?_)
      · refine lv_lload_n hx hb d_Mo_frame_96 rfl (lv_at hl 3 rfl) ?_
        cases hm
        exact z_qo hQ (z_lret hr hx hb hlocks hK hP hD hS d_Mo_frame_97)
      · refine lv_aload_n hx hb d_Mo_frame_33 rfl (lv_at hl 0 rfl) ?_
        refine va_get (D := D) (ci := 11) (v := .int M_thrown) (C := "DeepChannelModel") (T := fT_Mo) (N := 40) hx hb hts u_Mo hown hK hP 0 rfl rfl 0 (by decide) (hts _ k_886) (fun _ h9 => h9) rfl d_Mo_frame_34 ?_
        refine z_ifn hm (lv_if_ne (tgt := 96) hx hb d_Mo_frame_37 (by decide)) (fun hm => ?_) (fun hm => ?_)
        · refine lv_iload_n hx hb d_Mo_frame_40 rfl (lv_at hl 2 rfl) ?_
          refine lv_i2l (v := x2.toInt64) hx hb d_Mo_frame_41 rfl ?_
          refine lv_iload hx hb d_Mo_frame_42 (lv_at hl 4 rfl) ?_
          refine lv_i2l (v := x5.toInt64) hx hb d_Mo_frame_44 rfl ?_
          refine lv_ladd hx hb d_Mo_frame_45 ?_
          refine z_nml hm (fun v2 hm => ?_)
          refine lv_lstore (lv' := [(6, .long v2), (0, .ref qM), (1, .int x1), (2, .int x2), (3, .long x3), (5, .int x5)]) hx hb d_Mo_frame_46 hl (by decide) rfl (fun ls hl => ?_)
          refine lv_lload hx hb d_Mo_frame_48 (lv_at hl 0 rfl) ?_
          refine lv_lconst (v := (0 : Int64)) hx hb d_Mo_frame_50 (by decide) ?_
          refine W.lcmp hx hb d_Mo_frame_51 ?_
          refine z_if hm (lv_if_lt (tgt := 90) hx hb d_Mo_frame_52 (by decide)) (fun hm => ?_) (fun hm => ?_)
          · exact T90 x1 x2 x3 x5 M_thrown hm _ _ hP hD hS _ (lv_sub hl [1, 2, 3, 4, 5] rfl)
          · refine lv_lload hx hb d_Mo_frame_55 (lv_at hl 0 rfl) ?_
            refine lv_aload_n hx hb d_Mo_frame_57 rfl (lv_at hl 1 rfl) ?_
            obtain ⟨r3, hu, hm⟩ := bd_el hm
            replace hm := nm_1 hm
            refine z_cVi (wc := w_Mo_frameSize cI cJ qM (.int M_thrown) M_pattern M_craft M_begins M_firsts M_seconds M_powers M_logarithms M_forms M_elements M_mixer M_data M_waiting M_master M_counts M_line M_length M_sent M_state M_places M_least M_row M_rowSize M_differ (.int M_blocks) M_marks M_wrongs (.ref qM_bytes) M_rights M_tells M_lastMaster M_lastCounts M_word M_values M_system M_solved M_wrong M_depth M_fill M_half) (wc' := w_Mo_frameSize cI cJ qM (.int M_thrown) M_pattern M_craft M_begins M_firsts M_seconds M_powers M_logarithms M_forms M_elements M_mixer M_data M_waiting M_master M_counts M_line M_length M_sent M_state M_places M_least M_row M_rowSize M_differ (.int M_blocks) M_marks M_wrongs (.ref qM_bytes) M_rights M_tells M_lastMaster M_lastCounts M_word M_values M_system M_solved M_wrong M_depth M_fill M_half) (wr := [(qM_bytes, .inl (cI, 4000, .inl M_bytes))]) (As := []) (rest := [.long v2]) (c_Mo_frameSize l D cI cJ tt qM (.int M_thrown) M_pattern M_craft M_begins M_firsts M_seconds M_powers M_logarithms M_forms M_elements M_mixer M_data M_waiting M_master M_counts M_line M_length M_sent M_state M_places M_least M_row M_rowSize M_differ (.int M_blocks) M_marks M_wrongs (.ref qM_bytes) M_rights M_tells M_lastMaster M_lastCounts M_word M_values M_system M_solved M_wrong _ M_depth M_fill M_half r3 hu) F ok_Mo_frameSize rfl k_1026 hK hE hP hD hS hA [0] [1] rfl rfl (by decide) (by decide) (by decide) 0 rfl rfl rfl ⟨rfl, rfl, Nat.le_of_ble_eq_true rfl, Nat.le_of_ble_eq_true rfl⟩ ⟨Nat.zero_le _, Nat.zero_le _⟩ rfl hl.1 rfl (Nat.le_of_ble_eq_true rfl) d_Mo_frame_58 (fun H locs hP hD hS => ?_)
            have hP : va_P D classes (w_Mo_frame cI cJ qM qM_bytes M_pattern M_craft M_begins M_firsts M_seconds M_powers M_logarithms M_forms M_elements M_mixer M_data M_waiting M_master M_counts M_line M_length M_sent M_state M_places M_least M_row M_rowSize M_differ M_marks M_wrongs M_rights M_tells M_lastMaster M_lastCounts M_word M_values M_system M_solved M_wrong M_thrown M_depth M_fill M_half M_blocks M_bytes) H := hP.sub [1, 0] rfl
            have hD : va_D A (w_Mo_frame cI cJ qM qM_bytes M_pattern M_craft M_begins M_firsts M_seconds M_powers M_logarithms M_forms M_elements M_mixer M_data M_waiting M_master M_counts M_line M_length M_sent M_state M_places M_least M_row M_rowSize M_differ M_marks M_wrongs M_rights M_tells M_lastMaster M_lastCounts M_word M_values M_system M_solved M_wrong M_thrown M_depth M_fill M_half M_blocks M_bytes) := hD.sub [1, 0] (by decide) rfl
            refine lv_i2l (v := r3.toInt64) hx hb d_Mo_frame_61 rfl ?_
            refine W.lcmp hx hb d_Mo_frame_62 ?_
            refine z_if hm (lv_if_ge (tgt := 90) hx hb d_Mo_frame_63 (by decide)) (fun hm => ?_) (fun hm => ?_)
            · exact T90 x1 x2 x3 x5 M_thrown hm _ _ hP hD hS _ (lv_sub hl [1, 2, 3, 4, 5] rfl)
            · refine lv_lload_n hx hb d_Mo_frame_66 rfl (lv_at hl 4 rfl) ?_
              refine lv_aload_n hx hb d_Mo_frame_67 rfl (lv_at hl 1 rfl) ?_
              refine va_get (D := D) (ci := 11) (v := .ref qM_bytes) (C := "DeepChannelModel") (T := fT_Mo) (N := 40) hx hb hts u_Mo hown hK hP 0 rfl rfl 30 (by decide) (hts _ k_916) (fun _ h9 => h9) rfl d_Mo_frame_68 ?_
              refine lv_sipush (v := (250 : Int32)) hx hb d_Mo_frame_71 (by decide) ?_
              refine lv_iload_n hx hb d_Mo_frame_74 rfl (lv_at hl 2 rfl) ?_
              refine lv_imul hx hb d_Mo_frame_75 ?_
              refine lv_lload hx hb d_Mo_frame_76 (lv_at hl 0 rfl) ?_
              refine lv_l2i (v := v2.toInt32) hx hb d_Mo_frame_78 rfl ?_
              refine lv_iadd hx hb d_Mo_frame_79 ?_
              refine z_iald hm hx hb hK hP 1 rfl d_Mo_frame_80 (fun v5 hm => ?_)
              refine lv_i2l (v := v5.toInt64) hx hb d_Mo_frame_81 rfl ?_
              refine lv_bipush (v := (8 : Int32)) hx hb d_Mo_frame_82 (by decide) ?_
              refine lv_iload hx hb d_Mo_frame_84 (lv_at hl 5 rfl) ?_
              refine lv_imul hx hb d_Mo_frame_86 ?_
              refine lv_lshl (v := (v5.toInt64 <<< (((8 : Int32) * x5).toInt64 &&& 63))) hx hb d_Mo_frame_87 rfl ?_
              refine lv_lor hx hb d_Mo_frame_88 ?_
              refine z_nml hm (fun v6 hm => ?_)
              refine lv_lstore_n (lv' := [(3, .long v6), (6, .long v2), (0, .ref qM), (1, .int x1), (2, .int x2), (5, .int x5)]) hx hb d_Mo_frame_89 rfl hl (by decide) rfl (fun ls hl => ?_)
              exact T90 x1 x2 v6 x5 M_thrown hm _ _ hP hD hS _ (lv_sub hl [2, 3, 4, 0, 5] rfl)
        · refine lv_lload_n hx hb d_Mo_frame_96 rfl (lv_at hl 3 rfl) ?_
          cases hm
          exact z_qo hQ (z_lret hr hx hb hlocks hK hP hD hS d_Mo_frame_97)
  have T18 : ∀ (x1 : Int32) (x2 : Int32) (t1 : Int32) (M_thrown : Int32), f_Mo_frame_18 M_depth M_fill M_half M_bytes x1 x2 t1 M_thrown = some (rr, M_thrown') → ∀ (H : Heap) (locs : List Loc), va_P D classes (w_Mo_frame cI cJ qM qM_bytes M_pattern M_craft M_begins M_firsts M_seconds M_powers M_logarithms M_forms M_elements M_mixer M_data M_waiting M_master M_counts M_line M_length M_sent M_state M_places M_least M_row M_rowSize M_differ M_marks M_wrongs M_rights M_tells M_lastMaster M_lastCounts M_word M_values M_system M_solved M_wrong M_thrown M_depth M_fill M_half M_blocks M_bytes) H → va_D A (w_Mo_frame cI cJ qM qM_bytes M_pattern M_craft M_begins M_firsts M_seconds M_powers M_logarithms M_forms M_elements M_mixer M_data M_waiting M_master M_counts M_line M_length M_sent M_state M_places M_least M_row M_rowSize M_differ M_marks M_wrongs M_rights M_tells M_lastMaster M_lastCounts M_word M_values M_system M_solved M_wrong M_thrown M_depth M_fill M_half M_blocks M_bytes) → va_S A s.heap H locs → ∀ (ls : Array Slot), lv_has ls 8 [(0, .ref qM), (1, .int x1), (2, .int x2)] → W p l e (RM 2 40) s m args below meth c H locs 0 0 Q0 (F0 m 18 ls [.int t1, .ref qM]) := by
    intro x1 x2 t1 M_thrown hm H locs hP hD hS ls hl
    unfold f_Mo_frame_18 at hm
    refine va_put (D := D) (ci := 11) (v := .int t1) (ty := .int) (C := "DeepChannelModel") (T := fT_Mo) (N := 40) hx hb hts u_Mo fY_Mo fK_Mo fN_Mo hown hK hP hD hS 0 rfl rfl 0 (by decide) (hts _ k_886) (fun _ h9 => h9) rfl (by decide +kernel) rfl rfl (Nat.le_of_ble_eq_true rfl) d_Mo_frame_18 (fun H locs hP hD hS => ?_)
    have hP : va_P D classes (w_Mo_frame cI cJ qM qM_bytes M_pattern M_craft M_begins M_firsts M_seconds M_powers M_logarithms M_forms M_elements M_mixer M_data M_waiting M_master M_counts M_line M_length M_sent M_state M_places M_least M_row M_rowSize M_differ M_marks M_wrongs M_rights M_tells M_lastMaster M_lastCounts M_word M_values M_system M_solved M_wrong t1 M_depth M_fill M_half M_blocks M_bytes) H := hP
    have hD : va_D A (w_Mo_frame cI cJ qM qM_bytes M_pattern M_craft M_begins M_firsts M_seconds M_powers M_logarithms M_forms M_elements M_mixer M_data M_waiting M_master M_counts M_line M_length M_sent M_state M_places M_least M_row M_rowSize M_differ M_marks M_wrongs M_rights M_tells M_lastMaster M_lastCounts M_word M_values M_system M_solved M_wrong t1 M_depth M_fill M_half M_blocks M_bytes) := hD
    refine lv_lconst (v := (0 : Int64)) hx hb d_Mo_frame_21 (by decide) ?_
    refine lv_lstore_n (lv' := [(3, .long (0 : Int64)), (0, .ref qM), (1, .int x1), (2, .int x2)]) hx hb d_Mo_frame_22 rfl hl (by decide) rfl (fun ls hl => ?_)
    refine lv_iconst (v := (0 : Int32)) hx hb d_Mo_frame_23 (by decide) ?_
    refine lv_istore (lv' := [(5, .int (0 : Int32)), (3, .long (0 : Int64)), (0, .ref qM), (1, .int x1), (2, .int x2)]) hx hb d_Mo_frame_24 hl (by decide) rfl (fun ls hl => ?_)
    exact T26 10000 x1 x2 (0 : Int64) (0 : Int32) t1 hm _ _ hP hD hS _ (lv_sub hl [2, 3, 4, 1, 0] rfl)
  have T13 : ∀ (x1 : Int32) (x2 : Int32) (M_thrown : Int32), f_Mo_frame_13 M_depth M_fill M_half M_bytes x1 x2 M_thrown = some (rr, M_thrown') → ∀ (H : Heap) (locs : List Loc), va_P D classes (w_Mo_frame cI cJ qM qM_bytes M_pattern M_craft M_begins M_firsts M_seconds M_powers M_logarithms M_forms M_elements M_mixer M_data M_waiting M_master M_counts M_line M_length M_sent M_state M_places M_least M_row M_rowSize M_differ M_marks M_wrongs M_rights M_tells M_lastMaster M_lastCounts M_word M_values M_system M_solved M_wrong M_thrown M_depth M_fill M_half M_blocks M_bytes) H → va_D A (w_Mo_frame cI cJ qM qM_bytes M_pattern M_craft M_begins M_firsts M_seconds M_powers M_logarithms M_forms M_elements M_mixer M_data M_waiting M_master M_counts M_line M_length M_sent M_state M_places M_least M_row M_rowSize M_differ M_marks M_wrongs M_rights M_tells M_lastMaster M_lastCounts M_word M_values M_system M_solved M_wrong M_thrown M_depth M_fill M_half M_blocks M_bytes) → va_S A s.heap H locs → ∀ (ls : Array Slot), lv_has ls 8 [(0, .ref qM), (1, .int x1), (2, .int x2)] → W p l e (RM 2 40) s m args below meth c H locs 0 0 Q0 (F0 m 13 ls [.ref qM]) := by
    intro x1 x2 M_thrown hm H locs hP hD hS ls hl
    unfold f_Mo_frame_13 at hm
    refine lv_iconst (v := (1 : Int32)) hx hb d_Mo_frame_13 (by decide) ?_
    refine lv_goto (tgt := 18) hx hb d_Mo_frame_14 (by decide) ?_
    exact T18 x1 x2 (1 : Int32) M_thrown hm _ _ hP hD hS _ (lv_sub hl [0, 1, 2] rfl)
  unfold f_Mo_frame at hm
  refine lv_aload_n hx hb d_Mo_frame_0 rfl (lv_at hl 0 rfl) ?_
  refine lv_iload_n hx hb d_Mo_frame_1 rfl (lv_at hl 1 rfl) ?_
  refine z_if hm (lv_if_lt (tgt := 13) hx hb d_Mo_frame_2 (by decide)) (fun hm => ?_) (fun hm => ?_)
  · exact T13 x1 x2 M_thrown hm _ _ hP hD hS _ (lv_sub hl [0, 1, 2] rfl)
  · refine lv_iload_n hx hb d_Mo_frame_5 rfl (lv_at hl 1 rfl) ?_
    refine lv_aload_n hx hb d_Mo_frame_6 rfl (lv_at hl 0 rfl) ?_
    refine va_get (D := D) (ci := 11) (v := .int M_blocks) (C := "DeepChannelModel") (T := fT_Mo) (N := 40) hx hb hts u_Mo hown hK hP 0 rfl rfl 27 (by decide) (hts _ k_913) (fun _ h9 => h9) rfl d_Mo_frame_7 ?_
    refine z_if hm (lv_icmp_lt (tgt := 17) hx hb d_Mo_frame_10 (by decide)) (fun hm => ?_) (fun hm => ?_)
    · refine lv_iconst (v := (0 : Int32)) hx hb d_Mo_frame_17 (by decide) ?_
      exact T18 x1 x2 (0 : Int32) M_thrown hm _ _ hP hD hS _ (lv_sub hl [0, 1, 2] rfl)
    · exact T13 x1 x2 M_thrown hm _ _ hP hD hS _ (lv_sub hl [0, 1, 2] rfl)
