/-! the law: contents of the class (ints ci, rows ca, rows of longs cl), of the reference (mi, ma), and its own row of one long -/
def lI (l : List Int32) (k : Nat) : Int32 := l.getD k 0
def lA (l : List (Nat → Int32)) (k : Nat) : Nat → Int32 := l.getD k (fun _ => 0)
def lL (l : List (Nat → Int64)) (k : Nat) : Nat → Int64 := l.getD k (fun _ => 0)
def ch3 {β : Type} (o : Option Nat) (a1 a2 b : Option β) : Option β := match o with
  | some 1 => a1
  | some 2 => a2
  | none => b
  | _ => none
theorem ch3_el {β : Type} {o : Option Nat} {a1 a2 b : Option β} {r : β} (h : ch3 o a1 a2 b = some r) : (o = some 1 ∧ a1 = some r) ∨ (o = some 2 ∧ a2 = some r) ∨ (o = none ∧ b = some r) := by
  unfold ch3 at h
  split at h
  · exact Or.inl ⟨rfl, h⟩
  · exact Or.inr (Or.inl ⟨rfl, h⟩)
  · exact Or.inr (Or.inr ⟨rfl, h⟩)
  · cases h
def LX (p : Program) (l : Launch) (s : State) (m : MethodId) (c : Code) (b L : Nat) (xs : Nat → Int32) (D : va_G) (cI cJ : ClassId) (tt sa : Nat → Nat) : Prop := p.tables.exec = Jvm.exec ∧ c.code = code ∧ c.maxLocals = 8 ∧ s.vm.findClass "DeepChannelLaw" = some m.cls ∧ (∀ w ∈ TB, w.before #[Value.ref b] s = true) ∧ va_X b L xs s s.heap ∧ b < s.heap.size ∧ va_K D classes (tys2 cI cJ) s ∧ EX tt (fun q : Nat => s.heap.size ≤ q) s ∧ EY sa (fun q : Nat => s.heap.size ≤ q) s ∧ NC "java/lang/IllegalStateException" "java/lang/IllegalArgumentException" s ∧ NC "java/lang/IndexOutOfBoundsException" "java/lang/IllegalArgumentException" s ∧ l.flags = pinnedFlags ++ [noTraceFlag]
theorem z_sld {p : Program} {l : Launch} {e : Env} {R : Room} {s : State} {m : MethodId} {args : Array Value} {below : List Frame} {meth : Method} {c : Code} {H : Heap} {locs : List Loc} {cells slots : Nat} {Q : State → Prop} {cc : ByteArray} {pc : Nat} {ls : Array Slot} {rest : List Value} {b L : Nat} {xs : Nat → Int32} {β : Type} {res : β} {i : Int32} {K : Int32 → Option β} (hm : rdI xs L i K = some res) (hexec : p.tables.exec = Jvm.exec) (hb : c.code = cc) (hX : va_X b L xs s s.heap) (hbl : b < s.heap.size) (hS : va_S (fun q : Nat => s.heap.size ≤ q) s.heap H locs) (hdg : decode cc pc = .ok (.iaload, 1))
    (kk : ∀ v, K v = some res → W p l e R s m args below meth c H locs cells slots Q (F0 m (pc + 1) ls (.int v :: rest))) : W p l e R s m args below meth c H locs cells slots Q (F0 m pc ls (.int i :: .ref b :: rest)) :=
  va_sld hexec hb hX hbl (Nat.not_le.mpr hbl) hS (rdI_el hm).1 hdg (kk _ (rdI_el hm).2)
abbrev w_law (cI cJ : ClassId) (qa qm : Nat → Nat) (qo : Nat) (ci : Nat → Int32) (ca : Nat → Nat → Int32) (cl : Nat → Nat → Int64) (mi : Nat → Int32) (ma : Nat → Nat → Int32) (ou : Nat → Int64) : va_W := [((qa 0), .inr (10, [.ref (qa 4), .ref (qa 3), .ref (qa 18), .ref (qa 20), .ref (qa 22), .ref (qa 23), .ref (qa 26)])), ((qa 1), .inl (cI, 256, .inl (ca 0))), ((qa 2), .inl (cI, 256, .inl (ca 1))), ((qa 3), .inr (9, [.ref (qa 4), .ref (qa 5), .ref (qa 8), .ref (qa 9), .ref (qa 10), .ref (qa 11), .ref (qa 12)])), ((qa 4), .inr (8, [.int (ci 0), .int (ci 1), .int (ci 2), .int (ci 3)])), ((qa 5), .inr (2, [.ref (qa 6), .ref (qa 7), .ref (qa 1), .ref (qa 2)])), ((qa 6), .inl (cI, 255, .inl (ca 2))), ((qa 7), .inl (cI, 256, .inl (ca 3))), ((qa 8), .inl (cI, 33, .inl (ca 4))), ((qa 9), .inl (cI, 32, .inl (ca 5))), ((qa 10), .inl (cI, 250, .inl (ca 6))), ((qa 11), .inl (cI, 32, .inl (ca 7))), ((qa 12), .inr (3, [.ref (qa 5), .ref (qa 13), .ref (qa 14), .ref (qa 15), .ref (qa 16), .ref (qa 17)])), ((qa 13), .inl (cI, 33, .inl (ca 8))), ((qa 14), .inl (cI, 33, .inl (ca 9))), ((qa 15), .inl (cI, 33, .inl (ca 10))), ((qa 16), .inl (cI, 33, .inl (ca 11))), ((qa 17), .inl (cI, 32, .inl (ca 12))), ((qa 18), .inr (4, [.ref (qa 19)])), ((qa 19), .inl (cI, 250, .inl (ca 13))), ((qa 20), .inr (0, [.ref (qa 21), .int (ci 4)])), ((qa 21), .inl (cJ, 64, .inr (.inl (cl 0)))), ((qa 22), .inr (1, [.ref (qa 4), .ref (qa 20), .int (ci 5), .int (ci 6)])), ((qa 23), .inr (7, [.ref (qa 4), .ref (qa 3), .ref (qa 18), .ref (qa 24), .ref (qa 25), .int (ci 7), .int (ci 8), .int (ci 9)])), ((qa 24), .inl (cI, 250, .inl (ca 14))), ((qa 25), .inl (cI, 8, .inl (ca 15))), ((qa 26), .inr (6, [.ref (qa 4), .ref (qa 3), .ref (qa 18), .ref (qa 27), .ref (qa 33), .ref (qa 35), .ref (qa 36), .ref (qa 37), .ref (qa 38), .int (ci 10), .int (ci 11), .int (ci 12)])), ((qa 27), .inr (5, [.ref (qa 28), .ref (qa 29), .ref (qa 30), .ref (qa 31), .ref (qa 32)])), ((qa 28), .inl (cI, 64, .inl (ca 16))), ((qa 29), .inl (cI, 4, .inl (ca 17))), ((qa 30), .inl (cI, 64, .inl (ca 18))), ((qa 31), .inl (cI, 64, .inl (ca 19))), ((qa 32), .inl (cJ, 4096, .inr (.inl (cl 1)))), ((qa 33), .inr (0, [.ref (qa 34), .int (ci 13)])), ((qa 34), .inl (cJ, 64, .inr (.inl (cl 2)))), ((qa 35), .inl (cI, 512, .inl (ca 20))), ((qa 36), .inl (cI, 144, .inl (ca 21))), ((qa 37), .inl (cI, 128, .inl (ca 22))), ((qa 38), .inl (cI, 8, .inl (ca 23))), ((qm 0), .inr (11, [.int (mi 0), .int (mi 1), .int (mi 2), .int (mi 3), .int (mi 4), .int (mi 5), .ref (qm 1), .ref (qm 2), .ref (qm 3), .ref (qm 4), .ref (qm 5), .ref (qm 6), .ref (qm 7), .ref (qm 8), .ref (qm 9), .int (mi 6), .int (mi 7), .ref (qm 10), .ref (qm 11), .int (mi 8), .int (mi 9), .int (mi 10), .ref (qm 12), .ref (qm 13), .ref (qm 14), .int (mi 11), .int (mi 12), .int (mi 13), .ref (qm 15), .ref (qm 16), .ref (qm 17), .ref (qm 18), .ref (qm 19), .int (mi 14), .ref (qm 20), .ref (qm 21), .ref (qm 22), .ref (qm 23), .ref (qm 24), .ref (qm 25)])), ((qm 1), .inl (cI, 6, .inl (ma 0))), ((qm 2), .inl (cI, 18, .inl (ma 1))), ((qm 3), .inl (cI, 18, .inl (ma 2))), ((qm 4), .inl (cI, 255, .inl (ma 3))), ((qm 5), .inl (cI, 256, .inl (ma 4))), ((qm 6), .inl (cI, 256, .inl (ma 5))), ((qm 7), .inl (cI, 256, .inl (ma 6))), ((qm 8), .inl (cI, 250, .inl (ma 7))), ((qm 9), .inl (cI, 250, .inl (ma 8))), ((qm 10), .inl (cI, 8, .inl (ma 9))), ((qm 11), .inl (cI, 4096, .inl (ma 10))), ((qm 12), .inl (cI, 3600, .inl (ma 11))), ((qm 13), .inl (cI, 230464, .inl (ma 12))), ((qm 14), .inl (cI, 3600, .inl (ma 13))), ((qm 15), .inl (cI, 16, .inl (ma 14))), ((qm 16), .inl (cI, 16, .inl (ma 15))), ((qm 17), .inl (cI, 4000, .inl (ma 16))), ((qm 18), .inl (cI, 128, .inl (ma 17))), ((qm 19), .inl (cI, 96, .inl (ma 18))), ((qm 20), .inl (cI, 8, .inl (ma 19))), ((qm 21), .inl (cI, 255, .inl (ma 20))), ((qm 22), .inl (cI, 32, .inl (ma 21))), ((qm 23), .inl (cI, 1056, .inl (ma 22))), ((qm 24), .inl (cI, 32, .inl (ma 23))), ((qm 25), .inl (cI, 16, .inl (ma 24))), (qo, .inl (cJ, 1, .inr (.inl ou)))]
theorem d_law_0 : decode code 0 = .ok (.new 8, 3) := by decide +kernel
theorem d_law_3 : decode code 3 = .ok (.dup, 1) := by decide +kernel
theorem d_law_4 : decode code 4 = .ok (.invokespecial 54, 3) := by decide +kernel
theorem d_law_7 : decode code 7 = .ok (.astore_n 1, 1) := by decide +kernel
theorem d_law_8 : decode code 8 = .ok (.new 55, 3) := by decide +kernel
theorem d_law_11 : decode code 11 = .ok (.dup, 1) := by decide +kernel
theorem d_law_12 : decode code 12 = .ok (.invokespecial 57, 3) := by decide +kernel
theorem d_law_15 : decode code 15 = .ok (.astore_n 2, 1) := by decide +kernel
theorem d_law_16 : decode code 16 = .ok (.iconst 1, 1) := by decide +kernel
theorem d_law_17 : decode code 17 = .ok (.newarray .long, 2) := by decide +kernel
theorem d_law_19 : decode code 19 = .ok (.astore_n 3, 1) := by decide +kernel
theorem d_law_20 : decode code 20 = .ok (.iconst 0, 1) := by decide +kernel
theorem d_law_21 : decode code 21 = .ok (.istore 4, 2) := by decide +kernel
theorem d_law_23 : decode code 23 = .ok (.iload 4, 2) := by decide +kernel
theorem d_law_25 : decode code 25 = .ok (.aload_n 0, 1) := by decide +kernel
theorem d_law_26 : decode code 26 = .ok (.arraylength, 1) := by decide +kernel
theorem d_law_27 : decode code 27 = .ok (.iconst 5, 1) := by decide +kernel
theorem d_law_28 : decode code 28 = .ok (.isub, 1) := by decide +kernel
theorem d_law_29 : decode code 29 = .ok (.if_icmp .gt 941, 3) := by decide +kernel
theorem d_law_32 : decode code 32 = .ok (.aload_n 0, 1) := by decide +kernel
theorem d_law_33 : decode code 33 = .ok (.iload 4, 2) := by decide +kernel
theorem d_law_35 : decode code 35 = .ok (.iaload, 1) := by decide +kernel
theorem d_law_36 : decode code 36 = .ok (.bipush 15, 2) := by decide +kernel
theorem d_law_38 : decode code 38 = .ok (.iand, 1) := by decide +kernel
theorem d_law_39 : decode code 39 = .ok (.tableswitch 925 0 13 #[69, 141, 197, 253, 353, 409, 509, 545, 614, 640, 696, 722, 790, 858], 69) := by decide +kernel
theorem d_law_108 : decode code 108 = .ok (.aload_n 1, 1) := by decide +kernel
theorem d_law_109 : decode code 109 = .ok (.aload_n 0, 1) := by decide +kernel
theorem d_law_110 : decode code 110 = .ok (.iload 4, 2) := by decide +kernel
theorem d_law_112 : decode code 112 = .ok (.iconst 1, 1) := by decide +kernel
theorem d_law_113 : decode code 113 = .ok (.iadd, 1) := by decide +kernel
theorem d_law_114 : decode code 114 = .ok (.iaload, 1) := by decide +kernel
theorem d_law_115 : decode code 115 = .ok (.aload_n 0, 1) := by decide +kernel
theorem d_law_116 : decode code 116 = .ok (.iload 4, 2) := by decide +kernel
theorem d_law_118 : decode code 118 = .ok (.iconst 2, 1) := by decide +kernel
theorem d_law_119 : decode code 119 = .ok (.iadd, 1) := by decide +kernel
theorem d_law_120 : decode code 120 = .ok (.iaload, 1) := by decide +kernel
theorem d_law_121 : decode code 121 = .ok (.aload_n 0, 1) := by decide +kernel
theorem d_law_122 : decode code 122 = .ok (.iload 4, 2) := by decide +kernel
theorem d_law_124 : decode code 124 = .ok (.iconst 3, 1) := by decide +kernel
theorem d_law_125 : decode code 125 = .ok (.iadd, 1) := by decide +kernel
theorem d_law_126 : decode code 126 = .ok (.iaload, 1) := by decide +kernel
theorem d_law_127 : decode code 127 = .ok (.aload_n 0, 1) := by decide +kernel
theorem d_law_128 : decode code 128 = .ok (.iload 4, 2) := by decide +kernel
theorem d_law_130 : decode code 130 = .ok (.iconst 4, 1) := by decide +kernel
theorem d_law_131 : decode code 131 = .ok (.iadd, 1) := by decide +kernel
theorem d_law_132 : decode code 132 = .ok (.iaload, 1) := by decide +kernel
theorem d_law_133 : decode code 133 = .ok (.invokestatic 58, 3) := by decide +kernel
theorem d_law_136 : decode code 136 = .ok (.istore 5, 2) := by decide +kernel
theorem d_law_138 : decode code 138 = .ok (.aload_n 2, 1) := by decide +kernel
theorem d_law_139 : decode code 139 = .ok (.aload_n 0, 1) := by decide +kernel
theorem d_law_140 : decode code 140 = .ok (.iload 4, 2) := by decide +kernel
theorem d_law_142 : decode code 142 = .ok (.iconst 1, 1) := by decide +kernel
theorem d_law_143 : decode code 143 = .ok (.iadd, 1) := by decide +kernel
theorem d_law_144 : decode code 144 = .ok (.iaload, 1) := by decide +kernel
theorem d_law_145 : decode code 145 = .ok (.aload_n 0, 1) := by decide +kernel
theorem d_law_146 : decode code 146 = .ok (.iload 4, 2) := by decide +kernel
theorem d_law_148 : decode code 148 = .ok (.iconst 2, 1) := by decide +kernel
theorem d_law_149 : decode code 149 = .ok (.iadd, 1) := by decide +kernel
theorem d_law_150 : decode code 150 = .ok (.iaload, 1) := by decide +kernel
theorem d_law_151 : decode code 151 = .ok (.aload_n 0, 1) := by decide +kernel
theorem d_law_152 : decode code 152 = .ok (.iload 4, 2) := by decide +kernel
theorem d_law_154 : decode code 154 = .ok (.iconst 3, 1) := by decide +kernel
theorem d_law_155 : decode code 155 = .ok (.iadd, 1) := by decide +kernel
theorem d_law_156 : decode code 156 = .ok (.iaload, 1) := by decide +kernel
theorem d_law_157 : decode code 157 = .ok (.aload_n 0, 1) := by decide +kernel
theorem d_law_158 : decode code 158 = .ok (.iload 4, 2) := by decide +kernel
theorem d_law_160 : decode code 160 = .ok (.iconst 4, 1) := by decide +kernel
theorem d_law_161 : decode code 161 = .ok (.iadd, 1) := by decide +kernel
theorem d_law_162 : decode code 162 = .ok (.iaload, 1) := by decide +kernel
theorem d_law_163 : decode code 163 = .ok (.invokevirtual 63, 3) := by decide +kernel
theorem d_law_166 : decode code 166 = .ok (.aload_n 2, 1) := by decide +kernel
theorem d_law_167 : decode code 167 = .ok (.invokevirtual 64, 3) := by decide +kernel
theorem d_law_170 : decode code 170 = .ok (.iload 5, 2) := by decide +kernel
theorem d_law_172 : decode code 172 = .ok (.if_icmp .eq 5, 3) := by decide +kernel
theorem d_law_175 : decode code 175 = .ok (.iconst 0, 1) := by decide +kernel
theorem d_law_176 : decode code 176 = .ok (.ireturn, 1) := by decide +kernel
theorem d_law_177 : decode code 177 = .ok (.goto 787, 3) := by decide +kernel
theorem d_law_180 : decode code 180 = .ok (.aload_n 1, 1) := by decide +kernel
theorem d_law_181 : decode code 181 = .ok (.aload_n 0, 1) := by decide +kernel
theorem d_law_182 : decode code 182 = .ok (.iload 4, 2) := by decide +kernel
theorem d_law_184 : decode code 184 = .ok (.iconst 1, 1) := by decide +kernel
theorem d_law_185 : decode code 185 = .ok (.iadd, 1) := by decide +kernel
theorem d_law_186 : decode code 186 = .ok (.iaload, 1) := by decide +kernel
theorem d_law_187 : decode code 187 = .ok (.aload_n 3, 1) := by decide +kernel
theorem d_law_188 : decode code 188 = .ok (.invokestatic 68, 3) := by decide +kernel
theorem d_law_191 : decode code 191 = .ok (.istore 5, 2) := by decide +kernel
theorem d_law_193 : decode code 193 = .ok (.aload_n 2, 1) := by decide +kernel
theorem d_law_194 : decode code 194 = .ok (.aload_n 0, 1) := by decide +kernel
theorem d_law_195 : decode code 195 = .ok (.iload 4, 2) := by decide +kernel
theorem d_law_197 : decode code 197 = .ok (.iconst 1, 1) := by decide +kernel
theorem d_law_198 : decode code 198 = .ok (.iadd, 1) := by decide +kernel
theorem d_law_199 : decode code 199 = .ok (.iaload, 1) := by decide +kernel
theorem d_law_200 : decode code 200 = .ok (.invokevirtual 71, 3) := by decide +kernel
theorem d_law_203 : decode code 203 = .ok (.istore 6, 2) := by decide +kernel
theorem d_law_205 : decode code 205 = .ok (.aload_n 2, 1) := by decide +kernel
theorem d_law_206 : decode code 206 = .ok (.invokevirtual 64, 3) := by decide +kernel
theorem d_law_209 : decode code 209 = .ok (.iload 5, 2) := by decide +kernel
theorem d_law_211 : decode code 211 = .ok (.if_icmp .eq 5, 3) := by decide +kernel
theorem d_law_214 : decode code 214 = .ok (.iconst 0, 1) := by decide +kernel
theorem d_law_215 : decode code 215 = .ok (.ireturn, 1) := by decide +kernel
theorem d_law_216 : decode code 216 = .ok (.iload 5, 2) := by decide +kernel
theorem d_law_218 : decode code 218 = .ok (.ifCond .ne 15, 3) := by decide +kernel
theorem d_law_221 : decode code 221 = .ok (.aload_n 3, 1) := by decide +kernel
theorem d_law_222 : decode code 222 = .ok (.iconst 0, 1) := by decide +kernel
theorem d_law_223 : decode code 223 = .ok (.laload, 1) := by decide +kernel
theorem d_law_224 : decode code 224 = .ok (.iload 6, 2) := by decide +kernel
theorem d_law_226 : decode code 226 = .ok (.i2l, 1) := by decide +kernel
theorem d_law_227 : decode code 227 = .ok (.lcmp, 1) := by decide +kernel
theorem d_law_228 : decode code 228 = .ok (.ifCond .eq 5, 3) := by decide +kernel
theorem d_law_231 : decode code 231 = .ok (.iconst 0, 1) := by decide +kernel
theorem d_law_232 : decode code 232 = .ok (.ireturn, 1) := by decide +kernel
theorem d_law_233 : decode code 233 = .ok (.goto 731, 3) := by decide +kernel
theorem d_law_236 : decode code 236 = .ok (.aload_n 1, 1) := by decide +kernel
theorem d_law_237 : decode code 237 = .ok (.aload_n 0, 1) := by decide +kernel
theorem d_law_238 : decode code 238 = .ok (.iload 4, 2) := by decide +kernel
theorem d_law_240 : decode code 240 = .ok (.iconst 1, 1) := by decide +kernel
theorem d_law_241 : decode code 241 = .ok (.iadd, 1) := by decide +kernel
theorem d_law_242 : decode code 242 = .ok (.iaload, 1) := by decide +kernel
theorem d_law_243 : decode code 243 = .ok (.aload_n 3, 1) := by decide +kernel
theorem d_law_244 : decode code 244 = .ok (.invokestatic 72, 3) := by decide +kernel
theorem d_law_247 : decode code 247 = .ok (.istore 5, 2) := by decide +kernel
theorem d_law_249 : decode code 249 = .ok (.aload_n 2, 1) := by decide +kernel
theorem d_law_250 : decode code 250 = .ok (.aload_n 0, 1) := by decide +kernel
theorem d_law_251 : decode code 251 = .ok (.iload 4, 2) := by decide +kernel
theorem d_law_253 : decode code 253 = .ok (.iconst 1, 1) := by decide +kernel
theorem d_law_254 : decode code 254 = .ok (.iadd, 1) := by decide +kernel
theorem d_law_255 : decode code 255 = .ok (.iaload, 1) := by decide +kernel
theorem d_law_256 : decode code 256 = .ok (.invokevirtual 74, 3) := by decide +kernel
theorem d_law_259 : decode code 259 = .ok (.istore 6, 2) := by decide +kernel
theorem d_law_261 : decode code 261 = .ok (.aload_n 2, 1) := by decide +kernel
theorem d_law_262 : decode code 262 = .ok (.invokevirtual 64, 3) := by decide +kernel
theorem d_law_265 : decode code 265 = .ok (.iload 5, 2) := by decide +kernel
theorem d_law_267 : decode code 267 = .ok (.if_icmp .eq 5, 3) := by decide +kernel
theorem d_law_270 : decode code 270 = .ok (.iconst 0, 1) := by decide +kernel
theorem d_law_271 : decode code 271 = .ok (.ireturn, 1) := by decide +kernel
theorem d_law_272 : decode code 272 = .ok (.iload 5, 2) := by decide +kernel
theorem d_law_274 : decode code 274 = .ok (.ifCond .ne 15, 3) := by decide +kernel
theorem d_law_277 : decode code 277 = .ok (.aload_n 3, 1) := by decide +kernel
theorem d_law_278 : decode code 278 = .ok (.iconst 0, 1) := by decide +kernel
theorem d_law_279 : decode code 279 = .ok (.laload, 1) := by decide +kernel
theorem d_law_280 : decode code 280 = .ok (.iload 6, 2) := by decide +kernel
theorem d_law_282 : decode code 282 = .ok (.i2l, 1) := by decide +kernel
theorem d_law_283 : decode code 283 = .ok (.lcmp, 1) := by decide +kernel
theorem d_law_284 : decode code 284 = .ok (.ifCond .eq 5, 3) := by decide +kernel
theorem d_law_287 : decode code 287 = .ok (.iconst 0, 1) := by decide +kernel
theorem d_law_288 : decode code 288 = .ok (.ireturn, 1) := by decide +kernel
theorem d_law_289 : decode code 289 = .ok (.goto 675, 3) := by decide +kernel
theorem d_law_292 : decode code 292 = .ok (.aload_n 1, 1) := by decide +kernel
theorem d_law_293 : decode code 293 = .ok (.aload_n 0, 1) := by decide +kernel
theorem d_law_294 : decode code 294 = .ok (.iload 4, 2) := by decide +kernel
theorem d_law_296 : decode code 296 = .ok (.iconst 1, 1) := by decide +kernel
theorem d_law_297 : decode code 297 = .ok (.iadd, 1) := by decide +kernel
theorem d_law_298 : decode code 298 = .ok (.iaload, 1) := by decide +kernel
theorem d_law_299 : decode code 299 = .ok (.aload_n 0, 1) := by decide +kernel
theorem d_law_300 : decode code 300 = .ok (.iload 4, 2) := by decide +kernel
theorem d_law_302 : decode code 302 = .ok (.iconst 2, 1) := by decide +kernel
theorem d_law_303 : decode code 303 = .ok (.iadd, 1) := by decide +kernel
theorem d_law_304 : decode code 304 = .ok (.iaload, 1) := by decide +kernel
theorem d_law_305 : decode code 305 = .ok (.i2l, 1) := by decide +kernel
theorem d_law_306 : decode code 306 = .ok (.bipush 32, 2) := by decide +kernel
theorem d_law_308 : decode code 308 = .ok (.lshl, 1) := by decide +kernel
theorem d_law_309 : decode code 309 = .ok (.aload_n 0, 1) := by decide +kernel
theorem d_law_310 : decode code 310 = .ok (.iload 4, 2) := by decide +kernel
theorem d_law_312 : decode code 312 = .ok (.iconst 3, 1) := by decide +kernel
theorem d_law_313 : decode code 313 = .ok (.iadd, 1) := by decide +kernel
theorem d_law_314 : decode code 314 = .ok (.iaload, 1) := by decide +kernel
theorem d_law_315 : decode code 315 = .ok (.i2l, 1) := by decide +kernel
theorem d_law_316 : decode code 316 = .ok (.ldc2_w 75, 3) := by decide +kernel
theorem d_law_319 : decode code 319 = .ok (.land, 1) := by decide +kernel
theorem d_law_320 : decode code 320 = .ok (.lor, 1) := by decide +kernel
theorem d_law_321 : decode code 321 = .ok (.aload_n 3, 1) := by decide +kernel
theorem d_law_322 : decode code 322 = .ok (.invokestatic 77, 3) := by decide +kernel
theorem d_law_325 : decode code 325 = .ok (.istore 5, 2) := by decide +kernel
theorem d_law_327 : decode code 327 = .ok (.aload_n 2, 1) := by decide +kernel
theorem d_law_328 : decode code 328 = .ok (.aload_n 0, 1) := by decide +kernel
theorem d_law_329 : decode code 329 = .ok (.iload 4, 2) := by decide +kernel
theorem d_law_331 : decode code 331 = .ok (.iconst 1, 1) := by decide +kernel
theorem d_law_332 : decode code 332 = .ok (.iadd, 1) := by decide +kernel
theorem d_law_333 : decode code 333 = .ok (.iaload, 1) := by decide +kernel
theorem d_law_334 : decode code 334 = .ok (.aload_n 0, 1) := by decide +kernel
theorem d_law_335 : decode code 335 = .ok (.iload 4, 2) := by decide +kernel
theorem d_law_337 : decode code 337 = .ok (.iconst 2, 1) := by decide +kernel
theorem d_law_338 : decode code 338 = .ok (.iadd, 1) := by decide +kernel
theorem d_law_339 : decode code 339 = .ok (.iaload, 1) := by decide +kernel
theorem d_law_340 : decode code 340 = .ok (.i2l, 1) := by decide +kernel
theorem d_law_341 : decode code 341 = .ok (.bipush 32, 2) := by decide +kernel
theorem d_law_343 : decode code 343 = .ok (.lshl, 1) := by decide +kernel
theorem d_law_344 : decode code 344 = .ok (.aload_n 0, 1) := by decide +kernel
theorem d_law_345 : decode code 345 = .ok (.iload 4, 2) := by decide +kernel
theorem d_law_347 : decode code 347 = .ok (.iconst 3, 1) := by decide +kernel
theorem d_law_348 : decode code 348 = .ok (.iadd, 1) := by decide +kernel
theorem d_law_349 : decode code 349 = .ok (.iaload, 1) := by decide +kernel
theorem d_law_350 : decode code 350 = .ok (.i2l, 1) := by decide +kernel
theorem d_law_351 : decode code 351 = .ok (.ldc2_w 75, 3) := by decide +kernel
theorem d_law_354 : decode code 354 = .ok (.land, 1) := by decide +kernel
theorem d_law_355 : decode code 355 = .ok (.lor, 1) := by decide +kernel
theorem d_law_356 : decode code 356 = .ok (.invokevirtual 80, 3) := by decide +kernel
theorem d_law_359 : decode code 359 = .ok (.istore 6, 2) := by decide +kernel
theorem d_law_361 : decode code 361 = .ok (.aload_n 2, 1) := by decide +kernel
theorem d_law_362 : decode code 362 = .ok (.invokevirtual 64, 3) := by decide +kernel
theorem d_law_365 : decode code 365 = .ok (.iload 5, 2) := by decide +kernel
theorem d_law_367 : decode code 367 = .ok (.if_icmp .eq 5, 3) := by decide +kernel
theorem d_law_370 : decode code 370 = .ok (.iconst 0, 1) := by decide +kernel
theorem d_law_371 : decode code 371 = .ok (.ireturn, 1) := by decide +kernel
theorem d_law_372 : decode code 372 = .ok (.iload 5, 2) := by decide +kernel
theorem d_law_374 : decode code 374 = .ok (.ifCond .ne 15, 3) := by decide +kernel
theorem d_law_377 : decode code 377 = .ok (.aload_n 3, 1) := by decide +kernel
theorem d_law_378 : decode code 378 = .ok (.iconst 0, 1) := by decide +kernel
theorem d_law_379 : decode code 379 = .ok (.laload, 1) := by decide +kernel
theorem d_law_380 : decode code 380 = .ok (.iload 6, 2) := by decide +kernel
theorem d_law_382 : decode code 382 = .ok (.i2l, 1) := by decide +kernel
theorem d_law_383 : decode code 383 = .ok (.lcmp, 1) := by decide +kernel
theorem d_law_384 : decode code 384 = .ok (.ifCond .eq 5, 3) := by decide +kernel
theorem d_law_387 : decode code 387 = .ok (.iconst 0, 1) := by decide +kernel
theorem d_law_388 : decode code 388 = .ok (.ireturn, 1) := by decide +kernel
theorem d_law_389 : decode code 389 = .ok (.goto 575, 3) := by decide +kernel
theorem d_law_392 : decode code 392 = .ok (.aload_n 1, 1) := by decide +kernel
theorem d_law_393 : decode code 393 = .ok (.aload_n 0, 1) := by decide +kernel
theorem d_law_394 : decode code 394 = .ok (.iload 4, 2) := by decide +kernel
theorem d_law_396 : decode code 396 = .ok (.iconst 1, 1) := by decide +kernel
theorem d_law_397 : decode code 397 = .ok (.iadd, 1) := by decide +kernel
theorem d_law_398 : decode code 398 = .ok (.iaload, 1) := by decide +kernel
theorem d_law_399 : decode code 399 = .ok (.aload_n 3, 1) := by decide +kernel
theorem d_law_400 : decode code 400 = .ok (.invokestatic 81, 3) := by decide +kernel
theorem d_law_403 : decode code 403 = .ok (.istore 5, 2) := by decide +kernel
theorem d_law_405 : decode code 405 = .ok (.aload_n 2, 1) := by decide +kernel
theorem d_law_406 : decode code 406 = .ok (.aload_n 0, 1) := by decide +kernel
theorem d_law_407 : decode code 407 = .ok (.iload 4, 2) := by decide +kernel
theorem d_law_409 : decode code 409 = .ok (.iconst 1, 1) := by decide +kernel
theorem d_law_410 : decode code 410 = .ok (.iadd, 1) := by decide +kernel
theorem d_law_411 : decode code 411 = .ok (.iaload, 1) := by decide +kernel
theorem d_law_412 : decode code 412 = .ok (.invokevirtual 83, 3) := by decide +kernel
theorem d_law_415 : decode code 415 = .ok (.istore 6, 2) := by decide +kernel
theorem d_law_417 : decode code 417 = .ok (.aload_n 2, 1) := by decide +kernel
theorem d_law_418 : decode code 418 = .ok (.invokevirtual 64, 3) := by decide +kernel
theorem d_law_421 : decode code 421 = .ok (.iload 5, 2) := by decide +kernel
theorem d_law_423 : decode code 423 = .ok (.if_icmp .eq 5, 3) := by decide +kernel
theorem d_law_426 : decode code 426 = .ok (.iconst 0, 1) := by decide +kernel
theorem d_law_427 : decode code 427 = .ok (.ireturn, 1) := by decide +kernel
theorem d_law_428 : decode code 428 = .ok (.iload 5, 2) := by decide +kernel
theorem d_law_430 : decode code 430 = .ok (.ifCond .ne 15, 3) := by decide +kernel
theorem d_law_433 : decode code 433 = .ok (.aload_n 3, 1) := by decide +kernel
theorem d_law_434 : decode code 434 = .ok (.iconst 0, 1) := by decide +kernel
theorem d_law_435 : decode code 435 = .ok (.laload, 1) := by decide +kernel
theorem d_law_436 : decode code 436 = .ok (.iload 6, 2) := by decide +kernel
theorem d_law_438 : decode code 438 = .ok (.i2l, 1) := by decide +kernel
theorem d_law_439 : decode code 439 = .ok (.lcmp, 1) := by decide +kernel
theorem d_law_440 : decode code 440 = .ok (.ifCond .eq 5, 3) := by decide +kernel
theorem d_law_443 : decode code 443 = .ok (.iconst 0, 1) := by decide +kernel
theorem d_law_444 : decode code 444 = .ok (.ireturn, 1) := by decide +kernel
theorem d_law_445 : decode code 445 = .ok (.goto 519, 3) := by decide +kernel
theorem d_law_448 : decode code 448 = .ok (.aload_n 1, 1) := by decide +kernel
theorem d_law_449 : decode code 449 = .ok (.aload_n 0, 1) := by decide +kernel
theorem d_law_450 : decode code 450 = .ok (.iload 4, 2) := by decide +kernel
theorem d_law_452 : decode code 452 = .ok (.iconst 1, 1) := by decide +kernel
theorem d_law_453 : decode code 453 = .ok (.iadd, 1) := by decide +kernel
theorem d_law_454 : decode code 454 = .ok (.iaload, 1) := by decide +kernel
theorem d_law_455 : decode code 455 = .ok (.aload_n 0, 1) := by decide +kernel
theorem d_law_456 : decode code 456 = .ok (.iload 4, 2) := by decide +kernel
theorem d_law_458 : decode code 458 = .ok (.iconst 2, 1) := by decide +kernel
theorem d_law_459 : decode code 459 = .ok (.iadd, 1) := by decide +kernel
theorem d_law_460 : decode code 460 = .ok (.iaload, 1) := by decide +kernel
theorem d_law_461 : decode code 461 = .ok (.i2l, 1) := by decide +kernel
theorem d_law_462 : decode code 462 = .ok (.bipush 32, 2) := by decide +kernel
theorem d_law_464 : decode code 464 = .ok (.lshl, 1) := by decide +kernel
theorem d_law_465 : decode code 465 = .ok (.aload_n 0, 1) := by decide +kernel
theorem d_law_466 : decode code 466 = .ok (.iload 4, 2) := by decide +kernel
theorem d_law_468 : decode code 468 = .ok (.iconst 3, 1) := by decide +kernel
theorem d_law_469 : decode code 469 = .ok (.iadd, 1) := by decide +kernel
theorem d_law_470 : decode code 470 = .ok (.iaload, 1) := by decide +kernel
theorem d_law_471 : decode code 471 = .ok (.i2l, 1) := by decide +kernel
theorem d_law_472 : decode code 472 = .ok (.ldc2_w 75, 3) := by decide +kernel
theorem d_law_475 : decode code 475 = .ok (.land, 1) := by decide +kernel
theorem d_law_476 : decode code 476 = .ok (.lor, 1) := by decide +kernel
theorem d_law_477 : decode code 477 = .ok (.aload_n 3, 1) := by decide +kernel
theorem d_law_478 : decode code 478 = .ok (.invokestatic 84, 3) := by decide +kernel
theorem d_law_481 : decode code 481 = .ok (.istore 5, 2) := by decide +kernel
theorem d_law_483 : decode code 483 = .ok (.aload_n 2, 1) := by decide +kernel
theorem d_law_484 : decode code 484 = .ok (.aload_n 0, 1) := by decide +kernel
theorem d_law_485 : decode code 485 = .ok (.iload 4, 2) := by decide +kernel
theorem d_law_487 : decode code 487 = .ok (.iconst 1, 1) := by decide +kernel
theorem d_law_488 : decode code 488 = .ok (.iadd, 1) := by decide +kernel
theorem d_law_489 : decode code 489 = .ok (.iaload, 1) := by decide +kernel
theorem d_law_490 : decode code 490 = .ok (.aload_n 0, 1) := by decide +kernel
theorem d_law_491 : decode code 491 = .ok (.iload 4, 2) := by decide +kernel
theorem d_law_493 : decode code 493 = .ok (.iconst 2, 1) := by decide +kernel
theorem d_law_494 : decode code 494 = .ok (.iadd, 1) := by decide +kernel
theorem d_law_495 : decode code 495 = .ok (.iaload, 1) := by decide +kernel
theorem d_law_496 : decode code 496 = .ok (.i2l, 1) := by decide +kernel
theorem d_law_497 : decode code 497 = .ok (.bipush 32, 2) := by decide +kernel
theorem d_law_499 : decode code 499 = .ok (.lshl, 1) := by decide +kernel
theorem d_law_500 : decode code 500 = .ok (.aload_n 0, 1) := by decide +kernel
theorem d_law_501 : decode code 501 = .ok (.iload 4, 2) := by decide +kernel
theorem d_law_503 : decode code 503 = .ok (.iconst 3, 1) := by decide +kernel
theorem d_law_504 : decode code 504 = .ok (.iadd, 1) := by decide +kernel
theorem d_law_505 : decode code 505 = .ok (.iaload, 1) := by decide +kernel
theorem d_law_506 : decode code 506 = .ok (.i2l, 1) := by decide +kernel
theorem d_law_507 : decode code 507 = .ok (.ldc2_w 75, 3) := by decide +kernel
theorem d_law_510 : decode code 510 = .ok (.land, 1) := by decide +kernel
theorem d_law_511 : decode code 511 = .ok (.lor, 1) := by decide +kernel
theorem d_law_512 : decode code 512 = .ok (.invokevirtual 86, 3) := by decide +kernel
theorem d_law_515 : decode code 515 = .ok (.istore 6, 2) := by decide +kernel
theorem d_law_517 : decode code 517 = .ok (.aload_n 2, 1) := by decide +kernel
theorem d_law_518 : decode code 518 = .ok (.invokevirtual 64, 3) := by decide +kernel
theorem d_law_521 : decode code 521 = .ok (.iload 5, 2) := by decide +kernel
theorem d_law_523 : decode code 523 = .ok (.if_icmp .eq 5, 3) := by decide +kernel
theorem d_law_526 : decode code 526 = .ok (.iconst 0, 1) := by decide +kernel
theorem d_law_527 : decode code 527 = .ok (.ireturn, 1) := by decide +kernel
theorem d_law_528 : decode code 528 = .ok (.iload 5, 2) := by decide +kernel
theorem d_law_530 : decode code 530 = .ok (.ifCond .ne 15, 3) := by decide +kernel
theorem d_law_533 : decode code 533 = .ok (.aload_n 3, 1) := by decide +kernel
theorem d_law_534 : decode code 534 = .ok (.iconst 0, 1) := by decide +kernel
theorem d_law_535 : decode code 535 = .ok (.laload, 1) := by decide +kernel
theorem d_law_536 : decode code 536 = .ok (.iload 6, 2) := by decide +kernel
theorem d_law_538 : decode code 538 = .ok (.i2l, 1) := by decide +kernel
theorem d_law_539 : decode code 539 = .ok (.lcmp, 1) := by decide +kernel
theorem d_law_540 : decode code 540 = .ok (.ifCond .eq 5, 3) := by decide +kernel
theorem d_law_543 : decode code 543 = .ok (.iconst 0, 1) := by decide +kernel
theorem d_law_544 : decode code 544 = .ok (.ireturn, 1) := by decide +kernel
theorem d_law_545 : decode code 545 = .ok (.goto 419, 3) := by decide +kernel
theorem d_law_548 : decode code 548 = .ok (.aload_n 1, 1) := by decide +kernel
theorem d_law_549 : decode code 549 = .ok (.aload_n 0, 1) := by decide +kernel
theorem d_law_550 : decode code 550 = .ok (.iload 4, 2) := by decide +kernel
theorem d_law_552 : decode code 552 = .ok (.iconst 1, 1) := by decide +kernel
theorem d_law_553 : decode code 553 = .ok (.iadd, 1) := by decide +kernel
theorem d_law_554 : decode code 554 = .ok (.iaload, 1) := by decide +kernel
theorem d_law_555 : decode code 555 = .ok (.invokestatic 87, 3) := by decide +kernel
theorem d_law_558 : decode code 558 = .ok (.istore 5, 2) := by decide +kernel
theorem d_law_560 : decode code 560 = .ok (.aload_n 2, 1) := by decide +kernel
theorem d_law_561 : decode code 561 = .ok (.aload_n 0, 1) := by decide +kernel
theorem d_law_562 : decode code 562 = .ok (.iload 4, 2) := by decide +kernel
theorem d_law_564 : decode code 564 = .ok (.iconst 1, 1) := by decide +kernel
theorem d_law_565 : decode code 565 = .ok (.iadd, 1) := by decide +kernel
theorem d_law_566 : decode code 566 = .ok (.iaload, 1) := by decide +kernel
theorem d_law_567 : decode code 567 = .ok (.invokevirtual 90, 3) := by decide +kernel
theorem d_law_570 : decode code 570 = .ok (.aload_n 2, 1) := by decide +kernel
theorem d_law_571 : decode code 571 = .ok (.invokevirtual 64, 3) := by decide +kernel
theorem d_law_574 : decode code 574 = .ok (.iload 5, 2) := by decide +kernel
theorem d_law_576 : decode code 576 = .ok (.if_icmp .eq 5, 3) := by decide +kernel
theorem d_law_579 : decode code 579 = .ok (.iconst 0, 1) := by decide +kernel
theorem d_law_580 : decode code 580 = .ok (.ireturn, 1) := by decide +kernel
theorem d_law_581 : decode code 581 = .ok (.goto 383, 3) := by decide +kernel
theorem d_law_584 : decode code 584 = .ok (.aload_n 1, 1) := by decide +kernel
theorem d_law_585 : decode code 585 = .ok (.aload_n 0, 1) := by decide +kernel
theorem d_law_586 : decode code 586 = .ok (.iload 4, 2) := by decide +kernel
theorem d_law_588 : decode code 588 = .ok (.iconst 1, 1) := by decide +kernel
theorem d_law_589 : decode code 589 = .ok (.iadd, 1) := by decide +kernel
theorem d_law_590 : decode code 590 = .ok (.iaload, 1) := by decide +kernel
theorem d_law_591 : decode code 591 = .ok (.aload_n 0, 1) := by decide +kernel
theorem d_law_592 : decode code 592 = .ok (.iload 4, 2) := by decide +kernel
theorem d_law_594 : decode code 594 = .ok (.iconst 2, 1) := by decide +kernel
theorem d_law_595 : decode code 595 = .ok (.iadd, 1) := by decide +kernel
theorem d_law_596 : decode code 596 = .ok (.iaload, 1) := by decide +kernel
theorem d_law_597 : decode code 597 = .ok (.i2l, 1) := by decide +kernel
theorem d_law_598 : decode code 598 = .ok (.bipush 32, 2) := by decide +kernel
theorem d_law_600 : decode code 600 = .ok (.lshl, 1) := by decide +kernel
theorem d_law_601 : decode code 601 = .ok (.aload_n 0, 1) := by decide +kernel
theorem d_law_602 : decode code 602 = .ok (.iload 4, 2) := by decide +kernel
theorem d_law_604 : decode code 604 = .ok (.iconst 3, 1) := by decide +kernel
theorem d_law_605 : decode code 605 = .ok (.iadd, 1) := by decide +kernel
theorem d_law_606 : decode code 606 = .ok (.iaload, 1) := by decide +kernel
theorem d_law_607 : decode code 607 = .ok (.i2l, 1) := by decide +kernel
theorem d_law_608 : decode code 608 = .ok (.ldc2_w 75, 3) := by decide +kernel
theorem d_law_611 : decode code 611 = .ok (.land, 1) := by decide +kernel
theorem d_law_612 : decode code 612 = .ok (.lor, 1) := by decide +kernel
theorem d_law_613 : decode code 613 = .ok (.invokevirtual 91, 3) := by decide +kernel
theorem d_law_616 : decode code 616 = .ok (.aload_n 2, 1) := by decide +kernel
theorem d_law_617 : decode code 617 = .ok (.aload_n 0, 1) := by decide +kernel
theorem d_law_618 : decode code 618 = .ok (.iload 4, 2) := by decide +kernel
theorem d_law_620 : decode code 620 = .ok (.iconst 1, 1) := by decide +kernel
theorem d_law_621 : decode code 621 = .ok (.iadd, 1) := by decide +kernel
theorem d_law_622 : decode code 622 = .ok (.iaload, 1) := by decide +kernel
theorem d_law_623 : decode code 623 = .ok (.aload_n 0, 1) := by decide +kernel
theorem d_law_624 : decode code 624 = .ok (.iload 4, 2) := by decide +kernel
theorem d_law_626 : decode code 626 = .ok (.iconst 2, 1) := by decide +kernel
theorem d_law_627 : decode code 627 = .ok (.iadd, 1) := by decide +kernel
theorem d_law_628 : decode code 628 = .ok (.iaload, 1) := by decide +kernel
theorem d_law_629 : decode code 629 = .ok (.i2l, 1) := by decide +kernel
theorem d_law_630 : decode code 630 = .ok (.bipush 32, 2) := by decide +kernel
theorem d_law_632 : decode code 632 = .ok (.lshl, 1) := by decide +kernel
theorem d_law_633 : decode code 633 = .ok (.aload_n 0, 1) := by decide +kernel
theorem d_law_634 : decode code 634 = .ok (.iload 4, 2) := by decide +kernel
theorem d_law_636 : decode code 636 = .ok (.iconst 3, 1) := by decide +kernel
theorem d_law_637 : decode code 637 = .ok (.iadd, 1) := by decide +kernel
theorem d_law_638 : decode code 638 = .ok (.iaload, 1) := by decide +kernel
theorem d_law_639 : decode code 639 = .ok (.i2l, 1) := by decide +kernel
theorem d_law_640 : decode code 640 = .ok (.ldc2_w 75, 3) := by decide +kernel
theorem d_law_643 : decode code 643 = .ok (.land, 1) := by decide +kernel
theorem d_law_644 : decode code 644 = .ok (.lor, 1) := by decide +kernel
theorem d_law_645 : decode code 645 = .ok (.invokevirtual 94, 3) := by decide +kernel
theorem d_law_648 : decode code 648 = .ok (.if_icmp .eq 316, 3) := by decide +kernel
theorem d_law_651 : decode code 651 = .ok (.iconst 0, 1) := by decide +kernel
theorem d_law_652 : decode code 652 = .ok (.ireturn, 1) := by decide +kernel
theorem d_law_653 : decode code 653 = .ok (.aload_n 1, 1) := by decide +kernel
theorem d_law_654 : decode code 654 = .ok (.aload_n 0, 1) := by decide +kernel
theorem d_law_655 : decode code 655 = .ok (.iload 4, 2) := by decide +kernel
theorem d_law_657 : decode code 657 = .ok (.iconst 1, 1) := by decide +kernel
theorem d_law_658 : decode code 658 = .ok (.iadd, 1) := by decide +kernel
theorem d_law_659 : decode code 659 = .ok (.iaload, 1) := by decide +kernel
theorem d_law_660 : decode code 660 = .ok (.invokevirtual 95, 3) := by decide +kernel
theorem d_law_663 : decode code 663 = .ok (.aload_n 2, 1) := by decide +kernel
theorem d_law_664 : decode code 664 = .ok (.aload_n 0, 1) := by decide +kernel
theorem d_law_665 : decode code 665 = .ok (.iload 4, 2) := by decide +kernel
theorem d_law_667 : decode code 667 = .ok (.iconst 1, 1) := by decide +kernel
theorem d_law_668 : decode code 668 = .ok (.iadd, 1) := by decide +kernel
theorem d_law_669 : decode code 669 = .ok (.iaload, 1) := by decide +kernel
theorem d_law_670 : decode code 670 = .ok (.invokevirtual 99, 3) := by decide +kernel
theorem d_law_673 : decode code 673 = .ok (.lcmp, 1) := by decide +kernel
theorem d_law_674 : decode code 674 = .ok (.ifCond .eq 290, 3) := by decide +kernel
theorem d_law_677 : decode code 677 = .ok (.iconst 0, 1) := by decide +kernel
theorem d_law_678 : decode code 678 = .ok (.ireturn, 1) := by decide +kernel
theorem d_law_679 : decode code 679 = .ok (.aload_n 1, 1) := by decide +kernel
theorem d_law_680 : decode code 680 = .ok (.aload_n 0, 1) := by decide +kernel
theorem d_law_681 : decode code 681 = .ok (.iload 4, 2) := by decide +kernel
theorem d_law_683 : decode code 683 = .ok (.iconst 1, 1) := by decide +kernel
theorem d_law_684 : decode code 684 = .ok (.iadd, 1) := by decide +kernel
theorem d_law_685 : decode code 685 = .ok (.iaload, 1) := by decide +kernel
theorem d_law_686 : decode code 686 = .ok (.aload_n 3, 1) := by decide +kernel
theorem d_law_687 : decode code 687 = .ok (.invokestatic 100, 3) := by decide +kernel
theorem d_law_690 : decode code 690 = .ok (.istore 5, 2) := by decide +kernel
theorem d_law_692 : decode code 692 = .ok (.aload_n 2, 1) := by decide +kernel
theorem d_law_693 : decode code 693 = .ok (.aload_n 0, 1) := by decide +kernel
theorem d_law_694 : decode code 694 = .ok (.iload 4, 2) := by decide +kernel
theorem d_law_696 : decode code 696 = .ok (.iconst 1, 1) := by decide +kernel
theorem d_law_697 : decode code 697 = .ok (.iadd, 1) := by decide +kernel
theorem d_law_698 : decode code 698 = .ok (.iaload, 1) := by decide +kernel
theorem d_law_699 : decode code 699 = .ok (.invokevirtual 102, 3) := by decide +kernel
theorem d_law_702 : decode code 702 = .ok (.istore 6, 2) := by decide +kernel
theorem d_law_704 : decode code 704 = .ok (.aload_n 2, 1) := by decide +kernel
theorem d_law_705 : decode code 705 = .ok (.invokevirtual 64, 3) := by decide +kernel
theorem d_law_708 : decode code 708 = .ok (.iload 5, 2) := by decide +kernel
theorem d_law_710 : decode code 710 = .ok (.if_icmp .eq 5, 3) := by decide +kernel
theorem d_law_713 : decode code 713 = .ok (.iconst 0, 1) := by decide +kernel
theorem d_law_714 : decode code 714 = .ok (.ireturn, 1) := by decide +kernel
theorem d_law_715 : decode code 715 = .ok (.iload 5, 2) := by decide +kernel
theorem d_law_717 : decode code 717 = .ok (.ifCond .ne 15, 3) := by decide +kernel
theorem d_law_720 : decode code 720 = .ok (.aload_n 3, 1) := by decide +kernel
theorem d_law_721 : decode code 721 = .ok (.iconst 0, 1) := by decide +kernel
theorem d_law_722 : decode code 722 = .ok (.laload, 1) := by decide +kernel
theorem d_law_723 : decode code 723 = .ok (.iload 6, 2) := by decide +kernel
theorem d_law_725 : decode code 725 = .ok (.i2l, 1) := by decide +kernel
theorem d_law_726 : decode code 726 = .ok (.lcmp, 1) := by decide +kernel
theorem d_law_727 : decode code 727 = .ok (.ifCond .eq 5, 3) := by decide +kernel
theorem d_law_730 : decode code 730 = .ok (.iconst 0, 1) := by decide +kernel
theorem d_law_731 : decode code 731 = .ok (.ireturn, 1) := by decide +kernel
theorem d_law_732 : decode code 732 = .ok (.goto 232, 3) := by decide +kernel
theorem d_law_735 : decode code 735 = .ok (.aload_n 1, 1) := by decide +kernel
theorem d_law_736 : decode code 736 = .ok (.aload_n 0, 1) := by decide +kernel
theorem d_law_737 : decode code 737 = .ok (.iload 4, 2) := by decide +kernel
theorem d_law_739 : decode code 739 = .ok (.iconst 1, 1) := by decide +kernel
theorem d_law_740 : decode code 740 = .ok (.iadd, 1) := by decide +kernel
theorem d_law_741 : decode code 741 = .ok (.iaload, 1) := by decide +kernel
theorem d_law_742 : decode code 742 = .ok (.invokevirtual 103, 3) := by decide +kernel
theorem d_law_745 : decode code 745 = .ok (.aload_n 2, 1) := by decide +kernel
theorem d_law_746 : decode code 746 = .ok (.aload_n 0, 1) := by decide +kernel
theorem d_law_747 : decode code 747 = .ok (.iload 4, 2) := by decide +kernel
theorem d_law_749 : decode code 749 = .ok (.iconst 1, 1) := by decide +kernel
theorem d_law_750 : decode code 750 = .ok (.iadd, 1) := by decide +kernel
theorem d_law_751 : decode code 751 = .ok (.iaload, 1) := by decide +kernel
theorem d_law_752 : decode code 752 = .ok (.invokevirtual 106, 3) := by decide +kernel
theorem d_law_755 : decode code 755 = .ok (.lcmp, 1) := by decide +kernel
theorem d_law_756 : decode code 756 = .ok (.ifCond .eq 208, 3) := by decide +kernel
theorem d_law_759 : decode code 759 = .ok (.iconst 0, 1) := by decide +kernel
theorem d_law_760 : decode code 760 = .ok (.ireturn, 1) := by decide +kernel
theorem d_law_761 : decode code 761 = .ok (.aload_n 1, 1) := by decide +kernel
theorem d_law_762 : decode code 762 = .ok (.aload_n 0, 1) := by decide +kernel
theorem d_law_763 : decode code 763 = .ok (.iload 4, 2) := by decide +kernel
theorem d_law_765 : decode code 765 = .ok (.iconst 1, 1) := by decide +kernel
theorem d_law_766 : decode code 766 = .ok (.iadd, 1) := by decide +kernel
theorem d_law_767 : decode code 767 = .ok (.iaload, 1) := by decide +kernel
theorem d_law_768 : decode code 768 = .ok (.aload_n 0, 1) := by decide +kernel
theorem d_law_769 : decode code 769 = .ok (.iload 4, 2) := by decide +kernel
theorem d_law_771 : decode code 771 = .ok (.iconst 2, 1) := by decide +kernel
theorem d_law_772 : decode code 772 = .ok (.iadd, 1) := by decide +kernel
theorem d_law_773 : decode code 773 = .ok (.iaload, 1) := by decide +kernel
theorem d_law_774 : decode code 774 = .ok (.aload_n 3, 1) := by decide +kernel
theorem d_law_775 : decode code 775 = .ok (.invokestatic 107, 3) := by decide +kernel
theorem d_law_778 : decode code 778 = .ok (.istore 5, 2) := by decide +kernel
theorem d_law_780 : decode code 780 = .ok (.aload_n 2, 1) := by decide +kernel
theorem d_law_781 : decode code 781 = .ok (.aload_n 0, 1) := by decide +kernel
theorem d_law_782 : decode code 782 = .ok (.iload 4, 2) := by decide +kernel
theorem d_law_784 : decode code 784 = .ok (.iconst 1, 1) := by decide +kernel
theorem d_law_785 : decode code 785 = .ok (.iadd, 1) := by decide +kernel
theorem d_law_786 : decode code 786 = .ok (.iaload, 1) := by decide +kernel
theorem d_law_787 : decode code 787 = .ok (.aload_n 0, 1) := by decide +kernel
theorem d_law_788 : decode code 788 = .ok (.iload 4, 2) := by decide +kernel
theorem d_law_790 : decode code 790 = .ok (.iconst 2, 1) := by decide +kernel
theorem d_law_791 : decode code 791 = .ok (.iadd, 1) := by decide +kernel
theorem d_law_792 : decode code 792 = .ok (.iaload, 1) := by decide +kernel
theorem d_law_793 : decode code 793 = .ok (.invokevirtual 110, 3) := by decide +kernel
theorem d_law_796 : decode code 796 = .ok (.istore 6, 2) := by decide +kernel
theorem d_law_798 : decode code 798 = .ok (.aload_n 2, 1) := by decide +kernel
theorem d_law_799 : decode code 799 = .ok (.invokevirtual 64, 3) := by decide +kernel
theorem d_law_802 : decode code 802 = .ok (.iload 5, 2) := by decide +kernel
theorem d_law_804 : decode code 804 = .ok (.if_icmp .eq 5, 3) := by decide +kernel
theorem d_law_807 : decode code 807 = .ok (.iconst 0, 1) := by decide +kernel
theorem d_law_808 : decode code 808 = .ok (.ireturn, 1) := by decide +kernel
theorem d_law_809 : decode code 809 = .ok (.iload 5, 2) := by decide +kernel
theorem d_law_811 : decode code 811 = .ok (.ifCond .ne 15, 3) := by decide +kernel
theorem d_law_814 : decode code 814 = .ok (.aload_n 3, 1) := by decide +kernel
theorem d_law_815 : decode code 815 = .ok (.iconst 0, 1) := by decide +kernel
theorem d_law_816 : decode code 816 = .ok (.laload, 1) := by decide +kernel
theorem d_law_817 : decode code 817 = .ok (.iload 6, 2) := by decide +kernel
theorem d_law_819 : decode code 819 = .ok (.i2l, 1) := by decide +kernel
theorem d_law_820 : decode code 820 = .ok (.lcmp, 1) := by decide +kernel
theorem d_law_821 : decode code 821 = .ok (.ifCond .eq 5, 3) := by decide +kernel
theorem d_law_824 : decode code 824 = .ok (.iconst 0, 1) := by decide +kernel
theorem d_law_825 : decode code 825 = .ok (.ireturn, 1) := by decide +kernel
theorem d_law_826 : decode code 826 = .ok (.goto 138, 3) := by decide +kernel
theorem d_law_829 : decode code 829 = .ok (.aload_n 1, 1) := by decide +kernel
theorem d_law_830 : decode code 830 = .ok (.aload_n 0, 1) := by decide +kernel
theorem d_law_831 : decode code 831 = .ok (.iload 4, 2) := by decide +kernel
theorem d_law_833 : decode code 833 = .ok (.iconst 1, 1) := by decide +kernel
theorem d_law_834 : decode code 834 = .ok (.iadd, 1) := by decide +kernel
theorem d_law_835 : decode code 835 = .ok (.iaload, 1) := by decide +kernel
theorem d_law_836 : decode code 836 = .ok (.aload_n 0, 1) := by decide +kernel
theorem d_law_837 : decode code 837 = .ok (.iload 4, 2) := by decide +kernel
theorem d_law_839 : decode code 839 = .ok (.iconst 2, 1) := by decide +kernel
theorem d_law_840 : decode code 840 = .ok (.iadd, 1) := by decide +kernel
theorem d_law_841 : decode code 841 = .ok (.iaload, 1) := by decide +kernel
theorem d_law_842 : decode code 842 = .ok (.aload_n 3, 1) := by decide +kernel
theorem d_law_843 : decode code 843 = .ok (.invokestatic 111, 3) := by decide +kernel
theorem d_law_846 : decode code 846 = .ok (.istore 5, 2) := by decide +kernel
theorem d_law_848 : decode code 848 = .ok (.aload_n 2, 1) := by decide +kernel
theorem d_law_849 : decode code 849 = .ok (.aload_n 0, 1) := by decide +kernel
theorem d_law_850 : decode code 850 = .ok (.iload 4, 2) := by decide +kernel
theorem d_law_852 : decode code 852 = .ok (.iconst 1, 1) := by decide +kernel
theorem d_law_853 : decode code 853 = .ok (.iadd, 1) := by decide +kernel
theorem d_law_854 : decode code 854 = .ok (.iaload, 1) := by decide +kernel
theorem d_law_855 : decode code 855 = .ok (.aload_n 0, 1) := by decide +kernel
theorem d_law_856 : decode code 856 = .ok (.iload 4, 2) := by decide +kernel
theorem d_law_858 : decode code 858 = .ok (.iconst 2, 1) := by decide +kernel
theorem d_law_859 : decode code 859 = .ok (.iadd, 1) := by decide +kernel
theorem d_law_860 : decode code 860 = .ok (.iaload, 1) := by decide +kernel
theorem d_law_861 : decode code 861 = .ok (.invokevirtual 113, 3) := by decide +kernel
theorem d_law_864 : decode code 864 = .ok (.istore 6, 2) := by decide +kernel
theorem d_law_866 : decode code 866 = .ok (.aload_n 2, 1) := by decide +kernel
theorem d_law_867 : decode code 867 = .ok (.invokevirtual 64, 3) := by decide +kernel
theorem d_law_870 : decode code 870 = .ok (.iload 5, 2) := by decide +kernel
theorem d_law_872 : decode code 872 = .ok (.if_icmp .eq 5, 3) := by decide +kernel
theorem d_law_875 : decode code 875 = .ok (.iconst 0, 1) := by decide +kernel
theorem d_law_876 : decode code 876 = .ok (.ireturn, 1) := by decide +kernel
theorem d_law_877 : decode code 877 = .ok (.iload 5, 2) := by decide +kernel
theorem d_law_879 : decode code 879 = .ok (.ifCond .ne 15, 3) := by decide +kernel
theorem d_law_882 : decode code 882 = .ok (.aload_n 3, 1) := by decide +kernel
theorem d_law_883 : decode code 883 = .ok (.iconst 0, 1) := by decide +kernel
theorem d_law_884 : decode code 884 = .ok (.laload, 1) := by decide +kernel
theorem d_law_885 : decode code 885 = .ok (.iload 6, 2) := by decide +kernel
theorem d_law_887 : decode code 887 = .ok (.i2l, 1) := by decide +kernel
theorem d_law_888 : decode code 888 = .ok (.lcmp, 1) := by decide +kernel
theorem d_law_889 : decode code 889 = .ok (.ifCond .eq 5, 3) := by decide +kernel
theorem d_law_892 : decode code 892 = .ok (.iconst 0, 1) := by decide +kernel
theorem d_law_893 : decode code 893 = .ok (.ireturn, 1) := by decide +kernel
theorem d_law_894 : decode code 894 = .ok (.goto 70, 3) := by decide +kernel
theorem d_law_897 : decode code 897 = .ok (.aload_n 1, 1) := by decide +kernel
theorem d_law_898 : decode code 898 = .ok (.aload_n 0, 1) := by decide +kernel
theorem d_law_899 : decode code 899 = .ok (.iload 4, 2) := by decide +kernel
theorem d_law_901 : decode code 901 = .ok (.iconst 1, 1) := by decide +kernel
theorem d_law_902 : decode code 902 = .ok (.iadd, 1) := by decide +kernel
theorem d_law_903 : decode code 903 = .ok (.iaload, 1) := by decide +kernel
theorem d_law_904 : decode code 904 = .ok (.aload_n 0, 1) := by decide +kernel
theorem d_law_905 : decode code 905 = .ok (.iload 4, 2) := by decide +kernel
theorem d_law_907 : decode code 907 = .ok (.iconst 2, 1) := by decide +kernel
theorem d_law_908 : decode code 908 = .ok (.iadd, 1) := by decide +kernel
theorem d_law_909 : decode code 909 = .ok (.iaload, 1) := by decide +kernel
theorem d_law_910 : decode code 910 = .ok (.aload_n 3, 1) := by decide +kernel
theorem d_law_911 : decode code 911 = .ok (.invokestatic 114, 3) := by decide +kernel
theorem d_law_914 : decode code 914 = .ok (.istore 5, 2) := by decide +kernel
theorem d_law_916 : decode code 916 = .ok (.aload_n 2, 1) := by decide +kernel
theorem d_law_917 : decode code 917 = .ok (.aload_n 0, 1) := by decide +kernel
theorem d_law_918 : decode code 918 = .ok (.iload 4, 2) := by decide +kernel
theorem d_law_920 : decode code 920 = .ok (.iconst 1, 1) := by decide +kernel
theorem d_law_921 : decode code 921 = .ok (.iadd, 1) := by decide +kernel
theorem d_law_922 : decode code 922 = .ok (.iaload, 1) := by decide +kernel
theorem d_law_923 : decode code 923 = .ok (.aload_n 0, 1) := by decide +kernel
theorem d_law_924 : decode code 924 = .ok (.iload 4, 2) := by decide +kernel
theorem d_law_926 : decode code 926 = .ok (.iconst 2, 1) := by decide +kernel
theorem d_law_927 : decode code 927 = .ok (.iadd, 1) := by decide +kernel
theorem d_law_928 : decode code 928 = .ok (.iaload, 1) := by decide +kernel
theorem d_law_929 : decode code 929 = .ok (.invokevirtual 116, 3) := by decide +kernel
theorem d_law_932 : decode code 932 = .ok (.lstore 6, 2) := by decide +kernel
theorem d_law_934 : decode code 934 = .ok (.aload_n 2, 1) := by decide +kernel
theorem d_law_935 : decode code 935 = .ok (.invokevirtual 64, 3) := by decide +kernel
theorem d_law_938 : decode code 938 = .ok (.iload 5, 2) := by decide +kernel
theorem d_law_940 : decode code 940 = .ok (.if_icmp .eq 5, 3) := by decide +kernel
theorem d_law_943 : decode code 943 = .ok (.iconst 0, 1) := by decide +kernel
theorem d_law_944 : decode code 944 = .ok (.ireturn, 1) := by decide +kernel
theorem d_law_945 : decode code 945 = .ok (.iload 5, 2) := by decide +kernel
theorem d_law_947 : decode code 947 = .ok (.ifCond .ne 14, 3) := by decide +kernel
theorem d_law_950 : decode code 950 = .ok (.aload_n 3, 1) := by decide +kernel
theorem d_law_951 : decode code 951 = .ok (.iconst 0, 1) := by decide +kernel
theorem d_law_952 : decode code 952 = .ok (.laload, 1) := by decide +kernel
theorem d_law_953 : decode code 953 = .ok (.lload 6, 2) := by decide +kernel
theorem d_law_955 : decode code 955 = .ok (.lcmp, 1) := by decide +kernel
theorem d_law_956 : decode code 956 = .ok (.ifCond .eq 5, 3) := by decide +kernel
theorem d_law_959 : decode code 959 = .ok (.iconst 0, 1) := by decide +kernel
theorem d_law_960 : decode code 960 = .ok (.ireturn, 1) := by decide +kernel
theorem d_law_961 : decode code 961 = .ok (.goto 3, 3) := by decide +kernel
theorem d_law_964 : decode code 964 = .ok (.iinc 4 5, 3) := by decide +kernel
theorem d_law_967 : decode code 967 = .ok (.goto (-944), 3) := by decide +kernel
theorem d_law_970 : decode code 970 = .ok (.iconst 1, 1) := by decide +kernel
theorem d_law_971 : decode code 971 = .ok (.ireturn, 1) := by decide +kernel
theorem no2_DC_form (a0 : Int32) (a1 : Int32) (a2 : Int32) (a3 : Int32) : ¬ g_DC_form a0 a1 a2 a3 = some 2 := by
  intro h
  simp only [g_DC_form, bd, nm] at h
  repeat' split at h
  all_goals first | (cases h; done) | (exact absurd h (by decide))
theorem no2_DC_craft (a0 : Int32) : ¬ g_DC_craft a0 = some 2 := by
  intro h
  simp only [g_DC_craft, bd, nm] at h
  repeat' split at h
  all_goals first | (cases h; done) | (exact absurd h (by decide))
theorem no2_DC_told (a0 : Int32) : ¬ g_DC_told a0 = some 2 := by
  intro h
  simp only [g_DC_told, bd, nm] at h
  repeat' split at h
  all_goals first | (cases h; done) | (exact absurd h (by decide))
theorem no2_DC_data (a0 : Int32) (a1 : Int64) : ¬ g_DC_data a0 a1 = some 2 := by
  intro h
  simp only [g_DC_data, bd, nm] at h
  repeat' split at h
  all_goals first | (cases h; done) | (exact absurd h (by decide))
theorem no2_DC_plain (a0 : Int32) (a1 : Int64) : ¬ g_DC_plain a0 a1 = some 2 := by
  intro h
  simp only [g_DC_plain, bd, nm] at h
  repeat' split at h
  all_goals first | (cases h; done) | (exact absurd h (by decide))
theorem no2_DC_skip (a0 : Int32) : ¬ g_DC_skip a0 = some 2 := by
  intro h
  simp only [g_DC_skip, bd, nm] at h
  repeat' split at h
  all_goals first | (cases h; done) | (exact absurd h (by decide))
theorem no2_DC_receive (a0 : Int32) : ¬ g_DC_receive a0 = some 2 := by
  intro h
  simp only [g_DC_receive, bd, nm] at h
  repeat' split at h
  all_goals first | (cases h; done) | (exact absurd h (by decide))
theorem no2_DC_word (a0 : Int32) (a1 : Int32) (a2 : Int32) : ¬ g_DC_word a0 a1 a2 = some 2 := by
  intro h
  simp only [g_DC_word, bd, nm] at h
  repeat' split at h
  all_goals first | (cases h; done) | (exact absurd h (by decide))
theorem no2_DC_frame (a0 : Int32) (a1 : Int32) (a2 : Int32) : ¬ g_DC_frame a0 a1 a2 = some 2 := by
  intro h
  simp only [g_DC_frame, bd, nm] at h
  repeat' split at h
  all_goals first | (cases h; done) | (exact absurd h (by decide))
