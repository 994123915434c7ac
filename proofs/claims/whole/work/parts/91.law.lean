/-! THE CLAIM OUT OF ONE WALK OF THE LAW'S BODY. Your part is whole_start (and what it stands on); all else here is the same for every law, but numbers. -/
def R_law : String := "DrumMachineLaw"
def lw_P (b : Addr) (xs : List Int32) (args : Array Value) (s : State) : Prop := args = #[.ref b] ∧ s.IntsAt b xs ∧ xs.length ≤ 2560 ∧ (Jvm.Cond.and given_1 narrow_1).before args s = true
def lw_Q (_ : Array Value) (s : State) (o : Outcome) (t : State) : Prop := o = .returned (some (.int 1)) ∧ Framed s o t [] 1082 14493
def lw_Z (below : List Frame) (a : Array Value) (s : State) : State → Prop := fun t => ∃ o, t.status = .running ∧ Ended t below o ∧ lw_Q a s o t
/-- the law's own end, with 1 on the stack, nothing written that was there before, its room as the claim has it -/
theorem lw_ret {p : Program} {l : Launch} {e : Env} {s : State} {m : MethodId} {below : List Frame} {meth : Method} {c : Code} {b : Nat} (hx : p.tables.exec = Jvm.exec) (hb : c.code = code) (hr : meth.sig.returnType = ret) (hlocks : meth.locks = false) {pc : Nat} {H : Heap} {ls : Array Slot} (hdg : decode code pc = .ok (.ireturn, 1)) : W p l e room_1 s m #[Value.ref b] below meth c H [] 1082 14493 (lw_Z below #[Value.ref b] s) (F0 m pc ls [.int 1]) := by
  intro T hT X
  obtain ⟨fs, hret, hrun, hended, hW, hframe⟩ := X.leave (v := some (.int 1)) (hlocks := hlocks) (fun h => by rw [hr] at h; cases h)
  have hmeth' : T.vm.method? m = some meth := X.method'
  refine ⟨T.setFrames fs, ?_, .returned (some (.int 1)), hrun, hended, rfl, ⟨_, rfl⟩, hW, hframe⟩
  jvm_step X.here [X.here.top, hx, hb, hdg, hmeth', hr, ret, narrow_b1]
  (try refine ⟨rfl, ?_⟩); (try refine ⟨rfl, ?_⟩)
  first | (intro acts; rw [hret _ acts rfl rfl rfl]) | rw [hret _ _ rfl rfl rfl]
  exact Steps.refl _
/-- what holds at the law's entry: the machine, the code, the tables' words (any of lw_tbl by 'hts w (by decide +kernel)'), the script of L ints xs at the cell b, what the Statement gives of the start (any of its parts by flat_of_before) -/
def lw_At (p : Program) (s : State) (m : MethodId) (meth : Method) (c : Code) (b L : Nat) (xs : Nat → Int32) : Prop :=
  p.tables.exec = Jvm.exec ∧ c.code = code ∧ meth.sig.returnType = ret ∧ c.maxLocals = 8 ∧ s.vm.findClass R_law = some m.cls ∧ (∀ w ∈ lw_tbl, w.before #[Value.ref b] s = true) ∧ va_X b L xs s s.heap ∧ b < s.heap.size ∧ meth.locks = false ∧ (Jvm.Cond.and given_1 narrow_1).before #[Value.ref b] s = true
theorem wm2_0 : Cond.static yLa_word ∈ wsA := memA2 (i := 0) rfl rfl
theorem wm1_239 : Cond.methodLink RLa 71 yLa_word ∈ wsA := memA1 (i := 239) rfl rfl
theorem wm2_106 : Cond.static yLa_flip ∈ wsA := memA2 (i := 106) rfl rfl
theorem wm2_105 : Cond.methodLink RLa 81 yLa_flip ∈ wsA := memA2 (i := 105) rfl rfl
theorem wm2_134 : Cond.static yLa_card ∈ wsA := memA2 (i := 134) rfl rfl
theorem wm2_133 : Cond.methodLink RLa 85 yLa_card ∈ wsA := memA2 (i := 133) rfl rfl
theorem wm2_171 : Cond.static yLa_line ∈ wsA := memA2 (i := 171) rfl rfl
theorem wm2_170 : Cond.methodLink RLa 89 yLa_line ∈ wsA := memA2 (i := 170) rfl rfl
theorem wm2_212 : Cond.static yLa_reserve ∈ wsA := memA2 (i := 212) rfl rfl
theorem wm2_211 : Cond.methodLink RLa 93 yLa_reserve ∈ wsA := memA2 (i := 211) rfl rfl
theorem wm2_223 : Cond.static yLa_assemble ∈ wsA := memA2 (i := 223) rfl rfl
theorem wm2_222 : Cond.methodLink RLa 101 yLa_assemble ∈ wsA := memA2 (i := 222) rfl rfl
theorem wm3_87 : Cond.static yLa_place ∈ wsA := memA3 (i := 87) rfl rfl
theorem wm3_86 : Cond.methodLink RLa 105 yLa_place ∈ wsA := memA3 (i := 86) rfl rfl
theorem wm3_102 : Cond.static yLa_start ∈ wsA := memA3 (i := 102) rfl rfl
theorem wm3_101 : Cond.methodLink RLa 109 yLa_start ∈ wsA := memA3 (i := 101) rfl rfl
theorem wm3_114 : Cond.static yLa_run ∈ wsA := memA3 (i := 114) rfl rfl
theorem wm3_113 : Cond.methodLink RLa 112 yLa_run ∈ wsA := memA3 (i := 113) rfl rfl
theorem wm4_103 : Cond.static yLa_register ∈ wsA := memA4 (i := 103) rfl rfl
theorem wm4_102 : Cond.methodLink RLa 124 yLa_register ∈ wsA := memA4 (i := 102) rfl rfl
theorem wm4_123 : Cond.static yLa_sign ∈ wsA := memA4 (i := 123) rfl rfl
theorem wm4_122 : Cond.methodLink RLa 127 yLa_sign ∈ wsA := memA4 (i := 122) rfl rfl
theorem wm4_147 : Cond.static yLa_get ∈ wsA := memA4 (i := 147) rfl rfl
theorem wm4_146 : Cond.methodLink RLa 134 yLa_get ∈ wsA := memA4 (i := 146) rfl rfl
theorem wm4_158 : Cond.static yLa_output ∈ wsA := memA4 (i := 158) rfl rfl
theorem wm4_157 : Cond.methodLink RLa 137 yLa_output ∈ wsA := memA4 (i := 157) rfl rfl
theorem wm1_21 : Cond.instantiable RDM 5 ∈ wsA := memA1 (i := 21) rfl rfl
theorem wm4_174 : Cond.instantiable RMo 28 ∈ wsA := memA4 (i := 174) rfl rfl
theorem wm1_20 : Cond.classLink RLa 8 RDM ∈ wsA := memA1 (i := 20) rfl rfl
theorem wm4_173 : Cond.classLink RLa 66 RMo ∈ wsA := memA4 (i := 173) rfl rfl
theorem dL_0 : decode code 0 = .ok (.new 8, 3) := by decide +kernel
theorem dL_3 : decode code 3 = .ok (.dup, 1) := by decide +kernel
theorem dL_4 : decode code 4 = .ok (.invokespecial 65, 3) := by decide +kernel
theorem dL_7 : decode code 7 = .ok (.astore_n 1, 1) := by decide +kernel
theorem dL_8 : decode code 8 = .ok (.new 66, 3) := by decide +kernel
theorem dL_11 : decode code 11 = .ok (.dup, 1) := by decide +kernel
theorem dL_12 : decode code 12 = .ok (.invokespecial 68, 3) := by decide +kernel
theorem dL_15 : decode code 15 = .ok (.astore_n 2, 1) := by decide +kernel
theorem dL_16 : decode code 16 = .ok (.iconst 1, 1) := by decide +kernel
theorem dL_17 : decode code 17 = .ok (.newarray .long, 2) := by decide +kernel
theorem dL_19 : decode code 19 = .ok (.astore_n 3, 1) := by decide +kernel
theorem dL_20 : decode code 20 = .ok (.iconst 0, 1) := by decide +kernel
theorem dL_21 : decode code 21 = .ok (.istore 4, 2) := by decide +kernel
theorem dL_23 : decode code 23 = .ok (.iload 4, 2) := by decide +kernel
theorem dL_25 : decode code 25 = .ok (.aload_n 0, 1) := by decide +kernel
theorem dL_26 : decode code 26 = .ok (.arraylength, 1) := by decide +kernel
theorem dL_27 : decode code 27 = .ok (.iconst 5, 1) := by decide +kernel
theorem dL_28 : decode code 28 = .ok (.isub, 1) := by decide +kernel
theorem dL_29 : decode code 29 = .ok (.if_icmp .gt 1052, 3) := by decide +kernel
theorem dL_32 : decode code 32 = .ok (.aload_n 0, 1) := by decide +kernel
theorem dL_33 : decode code 33 = .ok (.iload 4, 2) := by decide +kernel
theorem dL_35 : decode code 35 = .ok (.iaload, 1) := by decide +kernel
theorem dL_36 : decode code 36 = .ok (.bipush 31, 2) := by decide +kernel
theorem dL_38 : decode code 38 = .ok (.iand, 1) := by decide +kernel
theorem dL_39 : decode code 39 = .ok (.tableswitch 1036 0 17 #[85, 193, 280, 396, 488, 524, 535, 607, 663, 699, 755, 768, 782, 837, 900, 913, 968, 1023], 85) := by decide +kernel
theorem dL_124 : decode code 124 = .ok (.aload_n 1, 1) := by decide +kernel
theorem dL_125 : decode code 125 = .ok (.aload_n 0, 1) := by decide +kernel
theorem dL_126 : decode code 126 = .ok (.iload 4, 2) := by decide +kernel
theorem dL_128 : decode code 128 = .ok (.iconst 1, 1) := by decide +kernel
theorem dL_129 : decode code 129 = .ok (.iadd, 1) := by decide +kernel
theorem dL_130 : decode code 130 = .ok (.iaload, 1) := by decide +kernel
theorem dL_131 : decode code 131 = .ok (.aload_n 0, 1) := by decide +kernel
theorem dL_132 : decode code 132 = .ok (.iload 4, 2) := by decide +kernel
theorem dL_134 : decode code 134 = .ok (.iconst 2, 1) := by decide +kernel
theorem dL_135 : decode code 135 = .ok (.iadd, 1) := by decide +kernel
theorem dL_136 : decode code 136 = .ok (.iaload, 1) := by decide +kernel
theorem dL_137 : decode code 137 = .ok (.i2l, 1) := by decide +kernel
theorem dL_138 : decode code 138 = .ok (.bipush 32, 2) := by decide +kernel
theorem dL_140 : decode code 140 = .ok (.lshl, 1) := by decide +kernel
theorem dL_141 : decode code 141 = .ok (.aload_n 0, 1) := by decide +kernel
theorem dL_142 : decode code 142 = .ok (.iload 4, 2) := by decide +kernel
theorem dL_144 : decode code 144 = .ok (.iconst 3, 1) := by decide +kernel
theorem dL_145 : decode code 145 = .ok (.iadd, 1) := by decide +kernel
theorem dL_146 : decode code 146 = .ok (.iaload, 1) := by decide +kernel
theorem dL_147 : decode code 147 = .ok (.i2l, 1) := by decide +kernel
theorem dL_148 : decode code 148 = .ok (.ldc2_w 69, 3) := by decide +kernel
theorem dL_151 : decode code 151 = .ok (.land, 1) := by decide +kernel
theorem dL_152 : decode code 152 = .ok (.lor, 1) := by decide +kernel
theorem dL_153 : decode code 153 = .ok (.aload_n 0, 1) := by decide +kernel
theorem dL_154 : decode code 154 = .ok (.iload 4, 2) := by decide +kernel
theorem dL_156 : decode code 156 = .ok (.iconst 4, 1) := by decide +kernel
theorem dL_157 : decode code 157 = .ok (.iadd, 1) := by decide +kernel
theorem dL_158 : decode code 158 = .ok (.iaload, 1) := by decide +kernel
theorem dL_159 : decode code 159 = .ok (.ifCond .eq 7, 3) := by decide +kernel
theorem dL_162 : decode code 162 = .ok (.iconst 1, 1) := by decide +kernel
theorem dL_163 : decode code 163 = .ok (.goto 4, 3) := by decide +kernel
theorem dL_166 : decode code 166 = .ok (.iconst 0, 1) := by decide +kernel
theorem dL_167 : decode code 167 = .ok (.invokestatic 71, 3) := by decide +kernel
theorem dL_170 : decode code 170 = .ok (.istore 5, 2) := by decide +kernel
theorem dL_172 : decode code 172 = .ok (.aload_n 2, 1) := by decide +kernel
theorem dL_173 : decode code 173 = .ok (.aload_n 0, 1) := by decide +kernel
theorem dL_174 : decode code 174 = .ok (.iload 4, 2) := by decide +kernel
theorem dL_176 : decode code 176 = .ok (.iconst 1, 1) := by decide +kernel
theorem dL_177 : decode code 177 = .ok (.iadd, 1) := by decide +kernel
theorem dL_178 : decode code 178 = .ok (.iaload, 1) := by decide +kernel
theorem dL_179 : decode code 179 = .ok (.aload_n 0, 1) := by decide +kernel
theorem dL_180 : decode code 180 = .ok (.iload 4, 2) := by decide +kernel
theorem dL_182 : decode code 182 = .ok (.iconst 2, 1) := by decide +kernel
theorem dL_183 : decode code 183 = .ok (.iadd, 1) := by decide +kernel
theorem dL_184 : decode code 184 = .ok (.iaload, 1) := by decide +kernel
theorem dL_185 : decode code 185 = .ok (.i2l, 1) := by decide +kernel
theorem dL_186 : decode code 186 = .ok (.bipush 32, 2) := by decide +kernel
theorem dL_188 : decode code 188 = .ok (.lshl, 1) := by decide +kernel
theorem dL_189 : decode code 189 = .ok (.aload_n 0, 1) := by decide +kernel
theorem dL_190 : decode code 190 = .ok (.iload 4, 2) := by decide +kernel
theorem dL_192 : decode code 192 = .ok (.iconst 3, 1) := by decide +kernel
theorem dL_193 : decode code 193 = .ok (.iadd, 1) := by decide +kernel
theorem dL_194 : decode code 194 = .ok (.iaload, 1) := by decide +kernel
theorem dL_195 : decode code 195 = .ok (.i2l, 1) := by decide +kernel
theorem dL_196 : decode code 196 = .ok (.ldc2_w 69, 3) := by decide +kernel
theorem dL_199 : decode code 199 = .ok (.land, 1) := by decide +kernel
theorem dL_200 : decode code 200 = .ok (.lor, 1) := by decide +kernel
theorem dL_201 : decode code 201 = .ok (.aload_n 0, 1) := by decide +kernel
theorem dL_202 : decode code 202 = .ok (.iload 4, 2) := by decide +kernel
theorem dL_204 : decode code 204 = .ok (.iconst 4, 1) := by decide +kernel
theorem dL_205 : decode code 205 = .ok (.iadd, 1) := by decide +kernel
theorem dL_206 : decode code 206 = .ok (.iaload, 1) := by decide +kernel
theorem dL_207 : decode code 207 = .ok (.ifCond .eq 7, 3) := by decide +kernel
theorem dL_210 : decode code 210 = .ok (.iconst 1, 1) := by decide +kernel
theorem dL_211 : decode code 211 = .ok (.goto 4, 3) := by decide +kernel
theorem dL_214 : decode code 214 = .ok (.iconst 0, 1) := by decide +kernel
theorem dL_215 : decode code 215 = .ok (.invokevirtual 76, 3) := by decide +kernel
theorem dL_218 : decode code 218 = .ok (.aload_n 2, 1) := by decide +kernel
theorem dL_219 : decode code 219 = .ok (.invokevirtual 77, 3) := by decide +kernel
theorem dL_222 : decode code 222 = .ok (.iload 5, 2) := by decide +kernel
theorem dL_224 : decode code 224 = .ok (.if_icmp .eq 5, 3) := by decide +kernel
theorem dL_227 : decode code 227 = .ok (.iconst 0, 1) := by decide +kernel
theorem dL_228 : decode code 228 = .ok (.ireturn, 1) := by decide +kernel
theorem dL_229 : decode code 229 = .ok (.goto 846, 3) := by decide +kernel
theorem dL_232 : decode code 232 = .ok (.aload_n 1, 1) := by decide +kernel
theorem dL_233 : decode code 233 = .ok (.aload_n 0, 1) := by decide +kernel
theorem dL_234 : decode code 234 = .ok (.iload 4, 2) := by decide +kernel
theorem dL_236 : decode code 236 = .ok (.iconst 1, 1) := by decide +kernel
theorem dL_237 : decode code 237 = .ok (.iadd, 1) := by decide +kernel
theorem dL_238 : decode code 238 = .ok (.iaload, 1) := by decide +kernel
theorem dL_239 : decode code 239 = .ok (.aload_n 0, 1) := by decide +kernel
theorem dL_240 : decode code 240 = .ok (.iload 4, 2) := by decide +kernel
theorem dL_242 : decode code 242 = .ok (.iconst 2, 1) := by decide +kernel
theorem dL_243 : decode code 243 = .ok (.iadd, 1) := by decide +kernel
theorem dL_244 : decode code 244 = .ok (.iaload, 1) := by decide +kernel
theorem dL_245 : decode code 245 = .ok (.aload_n 0, 1) := by decide +kernel
theorem dL_246 : decode code 246 = .ok (.iload 4, 2) := by decide +kernel
theorem dL_248 : decode code 248 = .ok (.iconst 3, 1) := by decide +kernel
theorem dL_249 : decode code 249 = .ok (.iadd, 1) := by decide +kernel
theorem dL_250 : decode code 250 = .ok (.iaload, 1) := by decide +kernel
theorem dL_251 : decode code 251 = .ok (.aload_n 3, 1) := by decide +kernel
theorem dL_252 : decode code 252 = .ok (.invokestatic 81, 3) := by decide +kernel
theorem dL_255 : decode code 255 = .ok (.istore 5, 2) := by decide +kernel
theorem dL_257 : decode code 257 = .ok (.aload_n 2, 1) := by decide +kernel
theorem dL_258 : decode code 258 = .ok (.aload_n 0, 1) := by decide +kernel
theorem dL_259 : decode code 259 = .ok (.iload 4, 2) := by decide +kernel
theorem dL_261 : decode code 261 = .ok (.iconst 1, 1) := by decide +kernel
theorem dL_262 : decode code 262 = .ok (.iadd, 1) := by decide +kernel
theorem dL_263 : decode code 263 = .ok (.iaload, 1) := by decide +kernel
theorem dL_264 : decode code 264 = .ok (.aload_n 0, 1) := by decide +kernel
theorem dL_265 : decode code 265 = .ok (.iload 4, 2) := by decide +kernel
theorem dL_267 : decode code 267 = .ok (.iconst 2, 1) := by decide +kernel
theorem dL_268 : decode code 268 = .ok (.iadd, 1) := by decide +kernel
theorem dL_269 : decode code 269 = .ok (.iaload, 1) := by decide +kernel
theorem dL_270 : decode code 270 = .ok (.aload_n 0, 1) := by decide +kernel
theorem dL_271 : decode code 271 = .ok (.iload 4, 2) := by decide +kernel
theorem dL_273 : decode code 273 = .ok (.iconst 3, 1) := by decide +kernel
theorem dL_274 : decode code 274 = .ok (.iadd, 1) := by decide +kernel
theorem dL_275 : decode code 275 = .ok (.iaload, 1) := by decide +kernel
theorem dL_276 : decode code 276 = .ok (.invokevirtual 84, 3) := by decide +kernel
theorem dL_279 : decode code 279 = .ok (.istore 6, 2) := by decide +kernel
theorem dL_281 : decode code 281 = .ok (.aload_n 2, 1) := by decide +kernel
theorem dL_282 : decode code 282 = .ok (.invokevirtual 77, 3) := by decide +kernel
theorem dL_285 : decode code 285 = .ok (.iload 5, 2) := by decide +kernel
theorem dL_287 : decode code 287 = .ok (.if_icmp .eq 5, 3) := by decide +kernel
theorem dL_290 : decode code 290 = .ok (.iconst 0, 1) := by decide +kernel
theorem dL_291 : decode code 291 = .ok (.ireturn, 1) := by decide +kernel
theorem dL_292 : decode code 292 = .ok (.iload 5, 2) := by decide +kernel
theorem dL_294 : decode code 294 = .ok (.ifCond .ne 22, 3) := by decide +kernel
theorem dL_297 : decode code 297 = .ok (.aload_n 3, 1) := by decide +kernel
theorem dL_298 : decode code 298 = .ok (.iconst 0, 1) := by decide +kernel
theorem dL_299 : decode code 299 = .ok (.laload, 1) := by decide +kernel
theorem dL_300 : decode code 300 = .ok (.iload 6, 2) := by decide +kernel
theorem dL_302 : decode code 302 = .ok (.ifCond .eq 7, 3) := by decide +kernel
theorem dL_305 : decode code 305 = .ok (.lconst 1, 1) := by decide +kernel
theorem dL_306 : decode code 306 = .ok (.goto 4, 3) := by decide +kernel
theorem dL_309 : decode code 309 = .ok (.lconst 0, 1) := by decide +kernel
theorem dL_310 : decode code 310 = .ok (.lcmp, 1) := by decide +kernel
theorem dL_311 : decode code 311 = .ok (.ifCond .eq 5, 3) := by decide +kernel
theorem dL_314 : decode code 314 = .ok (.iconst 0, 1) := by decide +kernel
theorem dL_315 : decode code 315 = .ok (.ireturn, 1) := by decide +kernel
theorem dL_316 : decode code 316 = .ok (.goto 759, 3) := by decide +kernel
theorem dL_319 : decode code 319 = .ok (.aload_n 1, 1) := by decide +kernel
theorem dL_320 : decode code 320 = .ok (.aload_n 0, 1) := by decide +kernel
theorem dL_321 : decode code 321 = .ok (.iload 4, 2) := by decide +kernel
theorem dL_323 : decode code 323 = .ok (.iconst 1, 1) := by decide +kernel
theorem dL_324 : decode code 324 = .ok (.iadd, 1) := by decide +kernel
theorem dL_325 : decode code 325 = .ok (.iaload, 1) := by decide +kernel
theorem dL_326 : decode code 326 = .ok (.i2l, 1) := by decide +kernel
theorem dL_327 : decode code 327 = .ok (.bipush 32, 2) := by decide +kernel
theorem dL_329 : decode code 329 = .ok (.lshl, 1) := by decide +kernel
theorem dL_330 : decode code 330 = .ok (.aload_n 0, 1) := by decide +kernel
theorem dL_331 : decode code 331 = .ok (.iload 4, 2) := by decide +kernel
theorem dL_333 : decode code 333 = .ok (.iconst 2, 1) := by decide +kernel
theorem dL_334 : decode code 334 = .ok (.iadd, 1) := by decide +kernel
theorem dL_335 : decode code 335 = .ok (.iaload, 1) := by decide +kernel
theorem dL_336 : decode code 336 = .ok (.i2l, 1) := by decide +kernel
theorem dL_337 : decode code 337 = .ok (.ldc2_w 69, 3) := by decide +kernel
theorem dL_340 : decode code 340 = .ok (.land, 1) := by decide +kernel
theorem dL_341 : decode code 341 = .ok (.lor, 1) := by decide +kernel
theorem dL_342 : decode code 342 = .ok (.aload_n 0, 1) := by decide +kernel
theorem dL_343 : decode code 343 = .ok (.iload 4, 2) := by decide +kernel
theorem dL_345 : decode code 345 = .ok (.iconst 3, 1) := by decide +kernel
theorem dL_346 : decode code 346 = .ok (.iadd, 1) := by decide +kernel
theorem dL_347 : decode code 347 = .ok (.iaload, 1) := by decide +kernel
theorem dL_348 : decode code 348 = .ok (.ifCond .eq 7, 3) := by decide +kernel
theorem dL_351 : decode code 351 = .ok (.iconst 1, 1) := by decide +kernel
theorem dL_352 : decode code 352 = .ok (.goto 4, 3) := by decide +kernel
theorem dL_355 : decode code 355 = .ok (.iconst 0, 1) := by decide +kernel
theorem dL_356 : decode code 356 = .ok (.aload_n 3, 1) := by decide +kernel
theorem dL_357 : decode code 357 = .ok (.invokestatic 85, 3) := by decide +kernel
theorem dL_360 : decode code 360 = .ok (.istore 5, 2) := by decide +kernel
theorem dL_362 : decode code 362 = .ok (.aload_n 2, 1) := by decide +kernel
theorem dL_363 : decode code 363 = .ok (.aload_n 0, 1) := by decide +kernel
theorem dL_364 : decode code 364 = .ok (.iload 4, 2) := by decide +kernel
theorem dL_366 : decode code 366 = .ok (.iconst 1, 1) := by decide +kernel
theorem dL_367 : decode code 367 = .ok (.iadd, 1) := by decide +kernel
theorem dL_368 : decode code 368 = .ok (.iaload, 1) := by decide +kernel
theorem dL_369 : decode code 369 = .ok (.i2l, 1) := by decide +kernel
theorem dL_370 : decode code 370 = .ok (.bipush 32, 2) := by decide +kernel
theorem dL_372 : decode code 372 = .ok (.lshl, 1) := by decide +kernel
theorem dL_373 : decode code 373 = .ok (.aload_n 0, 1) := by decide +kernel
theorem dL_374 : decode code 374 = .ok (.iload 4, 2) := by decide +kernel
theorem dL_376 : decode code 376 = .ok (.iconst 2, 1) := by decide +kernel
theorem dL_377 : decode code 377 = .ok (.iadd, 1) := by decide +kernel
theorem dL_378 : decode code 378 = .ok (.iaload, 1) := by decide +kernel
theorem dL_379 : decode code 379 = .ok (.i2l, 1) := by decide +kernel
theorem dL_380 : decode code 380 = .ok (.ldc2_w 69, 3) := by decide +kernel
theorem dL_383 : decode code 383 = .ok (.land, 1) := by decide +kernel
theorem dL_384 : decode code 384 = .ok (.lor, 1) := by decide +kernel
theorem dL_385 : decode code 385 = .ok (.aload_n 0, 1) := by decide +kernel
theorem dL_386 : decode code 386 = .ok (.iload 4, 2) := by decide +kernel
theorem dL_388 : decode code 388 = .ok (.iconst 3, 1) := by decide +kernel
theorem dL_389 : decode code 389 = .ok (.iadd, 1) := by decide +kernel
theorem dL_390 : decode code 390 = .ok (.iaload, 1) := by decide +kernel
theorem dL_391 : decode code 391 = .ok (.ifCond .eq 7, 3) := by decide +kernel
theorem dL_394 : decode code 394 = .ok (.iconst 1, 1) := by decide +kernel
theorem dL_395 : decode code 395 = .ok (.goto 4, 3) := by decide +kernel
theorem dL_398 : decode code 398 = .ok (.iconst 0, 1) := by decide +kernel
theorem dL_399 : decode code 399 = .ok (.invokevirtual 88, 3) := by decide +kernel
theorem dL_402 : decode code 402 = .ok (.istore 6, 2) := by decide +kernel
theorem dL_404 : decode code 404 = .ok (.aload_n 2, 1) := by decide +kernel
theorem dL_405 : decode code 405 = .ok (.invokevirtual 77, 3) := by decide +kernel
theorem dL_408 : decode code 408 = .ok (.iload 5, 2) := by decide +kernel
theorem dL_410 : decode code 410 = .ok (.if_icmp .eq 5, 3) := by decide +kernel
theorem dL_413 : decode code 413 = .ok (.iconst 0, 1) := by decide +kernel
theorem dL_414 : decode code 414 = .ok (.ireturn, 1) := by decide +kernel
theorem dL_415 : decode code 415 = .ok (.iload 5, 2) := by decide +kernel
theorem dL_417 : decode code 417 = .ok (.ifCond .ne 15, 3) := by decide +kernel
theorem dL_420 : decode code 420 = .ok (.aload_n 3, 1) := by decide +kernel
theorem dL_421 : decode code 421 = .ok (.iconst 0, 1) := by decide +kernel
theorem dL_422 : decode code 422 = .ok (.laload, 1) := by decide +kernel
theorem dL_423 : decode code 423 = .ok (.iload 6, 2) := by decide +kernel
theorem dL_425 : decode code 425 = .ok (.i2l, 1) := by decide +kernel
theorem dL_426 : decode code 426 = .ok (.lcmp, 1) := by decide +kernel
theorem dL_427 : decode code 427 = .ok (.ifCond .eq 5, 3) := by decide +kernel
theorem dL_430 : decode code 430 = .ok (.iconst 0, 1) := by decide +kernel
theorem dL_431 : decode code 431 = .ok (.ireturn, 1) := by decide +kernel
theorem dL_432 : decode code 432 = .ok (.goto 643, 3) := by decide +kernel
theorem dL_435 : decode code 435 = .ok (.aload_n 1, 1) := by decide +kernel
theorem dL_436 : decode code 436 = .ok (.aload_n 0, 1) := by decide +kernel
theorem dL_437 : decode code 437 = .ok (.iload 4, 2) := by decide +kernel
theorem dL_439 : decode code 439 = .ok (.iconst 1, 1) := by decide +kernel
theorem dL_440 : decode code 440 = .ok (.iadd, 1) := by decide +kernel
theorem dL_441 : decode code 441 = .ok (.iaload, 1) := by decide +kernel
theorem dL_442 : decode code 442 = .ok (.aload_n 0, 1) := by decide +kernel
theorem dL_443 : decode code 443 = .ok (.iload 4, 2) := by decide +kernel
theorem dL_445 : decode code 445 = .ok (.iconst 2, 1) := by decide +kernel
theorem dL_446 : decode code 446 = .ok (.iadd, 1) := by decide +kernel
theorem dL_447 : decode code 447 = .ok (.iaload, 1) := by decide +kernel
theorem dL_448 : decode code 448 = .ok (.aload_n 0, 1) := by decide +kernel
theorem dL_449 : decode code 449 = .ok (.iload 4, 2) := by decide +kernel
theorem dL_451 : decode code 451 = .ok (.iconst 3, 1) := by decide +kernel
theorem dL_452 : decode code 452 = .ok (.iadd, 1) := by decide +kernel
theorem dL_453 : decode code 453 = .ok (.iaload, 1) := by decide +kernel
theorem dL_454 : decode code 454 = .ok (.aload_n 0, 1) := by decide +kernel
theorem dL_455 : decode code 455 = .ok (.iload 4, 2) := by decide +kernel
theorem dL_457 : decode code 457 = .ok (.iconst 4, 1) := by decide +kernel
theorem dL_458 : decode code 458 = .ok (.iadd, 1) := by decide +kernel
theorem dL_459 : decode code 459 = .ok (.iaload, 1) := by decide +kernel
theorem dL_460 : decode code 460 = .ok (.aload_n 3, 1) := by decide +kernel
theorem dL_461 : decode code 461 = .ok (.invokestatic 89, 3) := by decide +kernel
theorem dL_464 : decode code 464 = .ok (.istore 5, 2) := by decide +kernel
theorem dL_466 : decode code 466 = .ok (.aload_n 2, 1) := by decide +kernel
theorem dL_467 : decode code 467 = .ok (.aload_n 0, 1) := by decide +kernel
theorem dL_468 : decode code 468 = .ok (.iload 4, 2) := by decide +kernel
theorem dL_470 : decode code 470 = .ok (.iconst 1, 1) := by decide +kernel
theorem dL_471 : decode code 471 = .ok (.iadd, 1) := by decide +kernel
theorem dL_472 : decode code 472 = .ok (.iaload, 1) := by decide +kernel
theorem dL_473 : decode code 473 = .ok (.aload_n 0, 1) := by decide +kernel
theorem dL_474 : decode code 474 = .ok (.iload 4, 2) := by decide +kernel
theorem dL_476 : decode code 476 = .ok (.iconst 2, 1) := by decide +kernel
theorem dL_477 : decode code 477 = .ok (.iadd, 1) := by decide +kernel
theorem dL_478 : decode code 478 = .ok (.iaload, 1) := by decide +kernel
theorem dL_479 : decode code 479 = .ok (.aload_n 0, 1) := by decide +kernel
theorem dL_480 : decode code 480 = .ok (.iload 4, 2) := by decide +kernel
theorem dL_482 : decode code 482 = .ok (.iconst 3, 1) := by decide +kernel
theorem dL_483 : decode code 483 = .ok (.iadd, 1) := by decide +kernel
theorem dL_484 : decode code 484 = .ok (.iaload, 1) := by decide +kernel
theorem dL_485 : decode code 485 = .ok (.aload_n 0, 1) := by decide +kernel
theorem dL_486 : decode code 486 = .ok (.iload 4, 2) := by decide +kernel
theorem dL_488 : decode code 488 = .ok (.iconst 4, 1) := by decide +kernel
theorem dL_489 : decode code 489 = .ok (.iadd, 1) := by decide +kernel
theorem dL_490 : decode code 490 = .ok (.iaload, 1) := by decide +kernel
theorem dL_491 : decode code 491 = .ok (.invokevirtual 92, 3) := by decide +kernel
theorem dL_494 : decode code 494 = .ok (.istore 6, 2) := by decide +kernel
theorem dL_496 : decode code 496 = .ok (.aload_n 2, 1) := by decide +kernel
theorem dL_497 : decode code 497 = .ok (.invokevirtual 77, 3) := by decide +kernel
theorem dL_500 : decode code 500 = .ok (.iload 5, 2) := by decide +kernel
theorem dL_502 : decode code 502 = .ok (.if_icmp .eq 5, 3) := by decide +kernel
theorem dL_505 : decode code 505 = .ok (.iconst 0, 1) := by decide +kernel
theorem dL_506 : decode code 506 = .ok (.ireturn, 1) := by decide +kernel
theorem dL_507 : decode code 507 = .ok (.iload 5, 2) := by decide +kernel
theorem dL_509 : decode code 509 = .ok (.ifCond .ne 15, 3) := by decide +kernel
theorem dL_512 : decode code 512 = .ok (.aload_n 3, 1) := by decide +kernel
theorem dL_513 : decode code 513 = .ok (.iconst 0, 1) := by decide +kernel
theorem dL_514 : decode code 514 = .ok (.laload, 1) := by decide +kernel
theorem dL_515 : decode code 515 = .ok (.iload 6, 2) := by decide +kernel
theorem dL_517 : decode code 517 = .ok (.i2l, 1) := by decide +kernel
theorem dL_518 : decode code 518 = .ok (.lcmp, 1) := by decide +kernel
theorem dL_519 : decode code 519 = .ok (.ifCond .eq 5, 3) := by decide +kernel
theorem dL_522 : decode code 522 = .ok (.iconst 0, 1) := by decide +kernel
theorem dL_523 : decode code 523 = .ok (.ireturn, 1) := by decide +kernel
theorem dL_524 : decode code 524 = .ok (.goto 551, 3) := by decide +kernel
theorem dL_527 : decode code 527 = .ok (.aload_n 1, 1) := by decide +kernel
theorem dL_528 : decode code 528 = .ok (.aload_n 0, 1) := by decide +kernel
theorem dL_529 : decode code 529 = .ok (.iload 4, 2) := by decide +kernel
theorem dL_531 : decode code 531 = .ok (.iconst 1, 1) := by decide +kernel
theorem dL_532 : decode code 532 = .ok (.iadd, 1) := by decide +kernel
theorem dL_533 : decode code 533 = .ok (.iaload, 1) := by decide +kernel
theorem dL_534 : decode code 534 = .ok (.invokestatic 93, 3) := by decide +kernel
theorem dL_537 : decode code 537 = .ok (.istore 5, 2) := by decide +kernel
theorem dL_539 : decode code 539 = .ok (.aload_n 2, 1) := by decide +kernel
theorem dL_540 : decode code 540 = .ok (.aload_n 0, 1) := by decide +kernel
theorem dL_541 : decode code 541 = .ok (.iload 4, 2) := by decide +kernel
theorem dL_543 : decode code 543 = .ok (.iconst 1, 1) := by decide +kernel
theorem dL_544 : decode code 544 = .ok (.iadd, 1) := by decide +kernel
theorem dL_545 : decode code 545 = .ok (.iaload, 1) := by decide +kernel
theorem dL_546 : decode code 546 = .ok (.invokevirtual 96, 3) := by decide +kernel
theorem dL_549 : decode code 549 = .ok (.aload_n 2, 1) := by decide +kernel
theorem dL_550 : decode code 550 = .ok (.invokevirtual 77, 3) := by decide +kernel
theorem dL_553 : decode code 553 = .ok (.iload 5, 2) := by decide +kernel
theorem dL_555 : decode code 555 = .ok (.if_icmp .eq 5, 3) := by decide +kernel
theorem dL_558 : decode code 558 = .ok (.iconst 0, 1) := by decide +kernel
theorem dL_559 : decode code 559 = .ok (.ireturn, 1) := by decide +kernel
theorem dL_560 : decode code 560 = .ok (.goto 515, 3) := by decide +kernel
theorem dL_563 : decode code 563 = .ok (.aload_n 1, 1) := by decide +kernel
theorem dL_564 : decode code 564 = .ok (.invokevirtual 97, 3) := by decide +kernel
theorem dL_567 : decode code 567 = .ok (.aload_n 2, 1) := by decide +kernel
theorem dL_568 : decode code 568 = .ok (.invokevirtual 100, 3) := by decide +kernel
theorem dL_571 : decode code 571 = .ok (.goto 504, 3) := by decide +kernel
theorem dL_574 : decode code 574 = .ok (.aload_n 1, 1) := by decide +kernel
theorem dL_575 : decode code 575 = .ok (.aload_n 0, 1) := by decide +kernel
theorem dL_576 : decode code 576 = .ok (.iload 4, 2) := by decide +kernel
theorem dL_578 : decode code 578 = .ok (.iconst 1, 1) := by decide +kernel
theorem dL_579 : decode code 579 = .ok (.iadd, 1) := by decide +kernel
theorem dL_580 : decode code 580 = .ok (.iaload, 1) := by decide +kernel
theorem dL_581 : decode code 581 = .ok (.ifCond .eq 7, 3) := by decide +kernel
theorem dL_584 : decode code 584 = .ok (.iconst 1, 1) := by decide +kernel
theorem dL_585 : decode code 585 = .ok (.goto 4, 3) := by decide +kernel
theorem dL_588 : decode code 588 = .ok (.iconst 0, 1) := by decide +kernel
theorem dL_589 : decode code 589 = .ok (.aload_n 3, 1) := by decide +kernel
theorem dL_590 : decode code 590 = .ok (.invokestatic 101, 3) := by decide +kernel
theorem dL_593 : decode code 593 = .ok (.istore 5, 2) := by decide +kernel
theorem dL_595 : decode code 595 = .ok (.aload_n 2, 1) := by decide +kernel
theorem dL_596 : decode code 596 = .ok (.aload_n 0, 1) := by decide +kernel
theorem dL_597 : decode code 597 = .ok (.iload 4, 2) := by decide +kernel
theorem dL_599 : decode code 599 = .ok (.iconst 1, 1) := by decide +kernel
theorem dL_600 : decode code 600 = .ok (.iadd, 1) := by decide +kernel
theorem dL_601 : decode code 601 = .ok (.iaload, 1) := by decide +kernel
theorem dL_602 : decode code 602 = .ok (.ifCond .eq 7, 3) := by decide +kernel
theorem dL_605 : decode code 605 = .ok (.iconst 1, 1) := by decide +kernel
theorem dL_606 : decode code 606 = .ok (.goto 4, 3) := by decide +kernel
theorem dL_609 : decode code 609 = .ok (.iconst 0, 1) := by decide +kernel
theorem dL_610 : decode code 610 = .ok (.invokevirtual 104, 3) := by decide +kernel
theorem dL_613 : decode code 613 = .ok (.istore 6, 2) := by decide +kernel
theorem dL_615 : decode code 615 = .ok (.aload_n 2, 1) := by decide +kernel
theorem dL_616 : decode code 616 = .ok (.invokevirtual 77, 3) := by decide +kernel
theorem dL_619 : decode code 619 = .ok (.iload 5, 2) := by decide +kernel
theorem dL_621 : decode code 621 = .ok (.if_icmp .eq 5, 3) := by decide +kernel
theorem dL_624 : decode code 624 = .ok (.iconst 0, 1) := by decide +kernel
theorem dL_625 : decode code 625 = .ok (.ireturn, 1) := by decide +kernel
theorem dL_626 : decode code 626 = .ok (.iload 5, 2) := by decide +kernel
theorem dL_628 : decode code 628 = .ok (.ifCond .ne 15, 3) := by decide +kernel
theorem dL_631 : decode code 631 = .ok (.aload_n 3, 1) := by decide +kernel
theorem dL_632 : decode code 632 = .ok (.iconst 0, 1) := by decide +kernel
theorem dL_633 : decode code 633 = .ok (.laload, 1) := by decide +kernel
theorem dL_634 : decode code 634 = .ok (.iload 6, 2) := by decide +kernel
theorem dL_636 : decode code 636 = .ok (.i2l, 1) := by decide +kernel
theorem dL_637 : decode code 637 = .ok (.lcmp, 1) := by decide +kernel
theorem dL_638 : decode code 638 = .ok (.ifCond .eq 5, 3) := by decide +kernel
theorem dL_641 : decode code 641 = .ok (.iconst 0, 1) := by decide +kernel
theorem dL_642 : decode code 642 = .ok (.ireturn, 1) := by decide +kernel
theorem dL_643 : decode code 643 = .ok (.goto 432, 3) := by decide +kernel
theorem dL_646 : decode code 646 = .ok (.aload_n 1, 1) := by decide +kernel
theorem dL_647 : decode code 647 = .ok (.aload_n 0, 1) := by decide +kernel
theorem dL_648 : decode code 648 = .ok (.iload 4, 2) := by decide +kernel
theorem dL_650 : decode code 650 = .ok (.iconst 1, 1) := by decide +kernel
theorem dL_651 : decode code 651 = .ok (.iadd, 1) := by decide +kernel
theorem dL_652 : decode code 652 = .ok (.iaload, 1) := by decide +kernel
theorem dL_653 : decode code 653 = .ok (.aload_n 3, 1) := by decide +kernel
theorem dL_654 : decode code 654 = .ok (.invokestatic 105, 3) := by decide +kernel
theorem dL_657 : decode code 657 = .ok (.istore 5, 2) := by decide +kernel
theorem dL_659 : decode code 659 = .ok (.aload_n 2, 1) := by decide +kernel
theorem dL_660 : decode code 660 = .ok (.aload_n 0, 1) := by decide +kernel
theorem dL_661 : decode code 661 = .ok (.iload 4, 2) := by decide +kernel
theorem dL_663 : decode code 663 = .ok (.iconst 1, 1) := by decide +kernel
theorem dL_664 : decode code 664 = .ok (.iadd, 1) := by decide +kernel
theorem dL_665 : decode code 665 = .ok (.iaload, 1) := by decide +kernel
theorem dL_666 : decode code 666 = .ok (.invokevirtual 108, 3) := by decide +kernel
theorem dL_669 : decode code 669 = .ok (.istore 6, 2) := by decide +kernel
theorem dL_671 : decode code 671 = .ok (.aload_n 2, 1) := by decide +kernel
theorem dL_672 : decode code 672 = .ok (.invokevirtual 77, 3) := by decide +kernel
theorem dL_675 : decode code 675 = .ok (.iload 5, 2) := by decide +kernel
theorem dL_677 : decode code 677 = .ok (.if_icmp .eq 5, 3) := by decide +kernel
theorem dL_680 : decode code 680 = .ok (.iconst 0, 1) := by decide +kernel
theorem dL_681 : decode code 681 = .ok (.ireturn, 1) := by decide +kernel
theorem dL_682 : decode code 682 = .ok (.iload 5, 2) := by decide +kernel
theorem dL_684 : decode code 684 = .ok (.ifCond .ne 15, 3) := by decide +kernel
theorem dL_687 : decode code 687 = .ok (.aload_n 3, 1) := by decide +kernel
theorem dL_688 : decode code 688 = .ok (.iconst 0, 1) := by decide +kernel
theorem dL_689 : decode code 689 = .ok (.laload, 1) := by decide +kernel
theorem dL_690 : decode code 690 = .ok (.iload 6, 2) := by decide +kernel
theorem dL_692 : decode code 692 = .ok (.i2l, 1) := by decide +kernel
theorem dL_693 : decode code 693 = .ok (.lcmp, 1) := by decide +kernel
theorem dL_694 : decode code 694 = .ok (.ifCond .eq 5, 3) := by decide +kernel
theorem dL_697 : decode code 697 = .ok (.iconst 0, 1) := by decide +kernel
theorem dL_698 : decode code 698 = .ok (.ireturn, 1) := by decide +kernel
theorem dL_699 : decode code 699 = .ok (.goto 376, 3) := by decide +kernel
theorem dL_702 : decode code 702 = .ok (.aload_n 1, 1) := by decide +kernel
theorem dL_703 : decode code 703 = .ok (.aload_n 0, 1) := by decide +kernel
theorem dL_704 : decode code 704 = .ok (.iload 4, 2) := by decide +kernel
theorem dL_706 : decode code 706 = .ok (.iconst 1, 1) := by decide +kernel
theorem dL_707 : decode code 707 = .ok (.iadd, 1) := by decide +kernel
theorem dL_708 : decode code 708 = .ok (.iaload, 1) := by decide +kernel
theorem dL_709 : decode code 709 = .ok (.invokestatic 109, 3) := by decide +kernel
theorem dL_712 : decode code 712 = .ok (.istore 5, 2) := by decide +kernel
theorem dL_714 : decode code 714 = .ok (.aload_n 2, 1) := by decide +kernel
theorem dL_715 : decode code 715 = .ok (.aload_n 0, 1) := by decide +kernel
theorem dL_716 : decode code 716 = .ok (.iload 4, 2) := by decide +kernel
theorem dL_718 : decode code 718 = .ok (.iconst 1, 1) := by decide +kernel
theorem dL_719 : decode code 719 = .ok (.iadd, 1) := by decide +kernel
theorem dL_720 : decode code 720 = .ok (.iaload, 1) := by decide +kernel
theorem dL_721 : decode code 721 = .ok (.invokevirtual 111, 3) := by decide +kernel
theorem dL_724 : decode code 724 = .ok (.aload_n 2, 1) := by decide +kernel
theorem dL_725 : decode code 725 = .ok (.invokevirtual 77, 3) := by decide +kernel
theorem dL_728 : decode code 728 = .ok (.iload 5, 2) := by decide +kernel
theorem dL_730 : decode code 730 = .ok (.if_icmp .eq 5, 3) := by decide +kernel
theorem dL_733 : decode code 733 = .ok (.iconst 0, 1) := by decide +kernel
theorem dL_734 : decode code 734 = .ok (.ireturn, 1) := by decide +kernel
theorem dL_735 : decode code 735 = .ok (.goto 340, 3) := by decide +kernel
theorem dL_738 : decode code 738 = .ok (.aload_n 1, 1) := by decide +kernel
theorem dL_739 : decode code 739 = .ok (.aload_n 0, 1) := by decide +kernel
theorem dL_740 : decode code 740 = .ok (.iload 4, 2) := by decide +kernel
theorem dL_742 : decode code 742 = .ok (.iconst 1, 1) := by decide +kernel
theorem dL_743 : decode code 743 = .ok (.iadd, 1) := by decide +kernel
theorem dL_744 : decode code 744 = .ok (.iaload, 1) := by decide +kernel
theorem dL_745 : decode code 745 = .ok (.aload_n 3, 1) := by decide +kernel
theorem dL_746 : decode code 746 = .ok (.invokestatic 112, 3) := by decide +kernel
theorem dL_749 : decode code 749 = .ok (.istore 5, 2) := by decide +kernel
theorem dL_751 : decode code 751 = .ok (.aload_n 2, 1) := by decide +kernel
theorem dL_752 : decode code 752 = .ok (.aload_n 0, 1) := by decide +kernel
theorem dL_753 : decode code 753 = .ok (.iload 4, 2) := by decide +kernel
theorem dL_755 : decode code 755 = .ok (.iconst 1, 1) := by decide +kernel
theorem dL_756 : decode code 756 = .ok (.iadd, 1) := by decide +kernel
theorem dL_757 : decode code 757 = .ok (.iaload, 1) := by decide +kernel
theorem dL_758 : decode code 758 = .ok (.invokevirtual 114, 3) := by decide +kernel
theorem dL_761 : decode code 761 = .ok (.istore 6, 2) := by decide +kernel
theorem dL_763 : decode code 763 = .ok (.aload_n 2, 1) := by decide +kernel
theorem dL_764 : decode code 764 = .ok (.invokevirtual 77, 3) := by decide +kernel
theorem dL_767 : decode code 767 = .ok (.iload 5, 2) := by decide +kernel
theorem dL_769 : decode code 769 = .ok (.if_icmp .eq 5, 3) := by decide +kernel
theorem dL_772 : decode code 772 = .ok (.iconst 0, 1) := by decide +kernel
theorem dL_773 : decode code 773 = .ok (.ireturn, 1) := by decide +kernel
theorem dL_774 : decode code 774 = .ok (.iload 5, 2) := by decide +kernel
theorem dL_776 : decode code 776 = .ok (.ifCond .ne 15, 3) := by decide +kernel
theorem dL_779 : decode code 779 = .ok (.aload_n 3, 1) := by decide +kernel
theorem dL_780 : decode code 780 = .ok (.iconst 0, 1) := by decide +kernel
theorem dL_781 : decode code 781 = .ok (.laload, 1) := by decide +kernel
theorem dL_782 : decode code 782 = .ok (.iload 6, 2) := by decide +kernel
theorem dL_784 : decode code 784 = .ok (.i2l, 1) := by decide +kernel
theorem dL_785 : decode code 785 = .ok (.lcmp, 1) := by decide +kernel
theorem dL_786 : decode code 786 = .ok (.ifCond .eq 5, 3) := by decide +kernel
theorem dL_789 : decode code 789 = .ok (.iconst 0, 1) := by decide +kernel
theorem dL_790 : decode code 790 = .ok (.ireturn, 1) := by decide +kernel
theorem dL_791 : decode code 791 = .ok (.goto 284, 3) := by decide +kernel
theorem dL_794 : decode code 794 = .ok (.aload_n 1, 1) := by decide +kernel
theorem dL_795 : decode code 795 = .ok (.invokevirtual 115, 3) := by decide +kernel
theorem dL_798 : decode code 798 = .ok (.aload_n 2, 1) := by decide +kernel
theorem dL_799 : decode code 799 = .ok (.invokevirtual 118, 3) := by decide +kernel
theorem dL_802 : decode code 802 = .ok (.if_icmp .eq 273, 3) := by decide +kernel
theorem dL_805 : decode code 805 = .ok (.iconst 0, 1) := by decide +kernel
theorem dL_806 : decode code 806 = .ok (.ireturn, 1) := by decide +kernel
theorem dL_807 : decode code 807 = .ok (.aload_n 1, 1) := by decide +kernel
theorem dL_808 : decode code 808 = .ok (.invokevirtual 119, 3) := by decide +kernel
theorem dL_811 : decode code 811 = .ok (.aload_n 2, 1) := by decide +kernel
theorem dL_812 : decode code 812 = .ok (.invokevirtual 123, 3) := by decide +kernel
theorem dL_815 : decode code 815 = .ok (.lcmp, 1) := by decide +kernel
theorem dL_816 : decode code 816 = .ok (.ifCond .eq 259, 3) := by decide +kernel
theorem dL_819 : decode code 819 = .ok (.iconst 0, 1) := by decide +kernel
theorem dL_820 : decode code 820 = .ok (.ireturn, 1) := by decide +kernel
theorem dL_821 : decode code 821 = .ok (.aload_n 1, 1) := by decide +kernel
theorem dL_822 : decode code 822 = .ok (.aload_n 0, 1) := by decide +kernel
theorem dL_823 : decode code 823 = .ok (.iload 4, 2) := by decide +kernel
theorem dL_825 : decode code 825 = .ok (.iconst 1, 1) := by decide +kernel
theorem dL_826 : decode code 826 = .ok (.iadd, 1) := by decide +kernel
theorem dL_827 : decode code 827 = .ok (.iaload, 1) := by decide +kernel
theorem dL_828 : decode code 828 = .ok (.aload_n 3, 1) := by decide +kernel
theorem dL_829 : decode code 829 = .ok (.invokestatic 124, 3) := by decide +kernel
theorem dL_832 : decode code 832 = .ok (.istore 5, 2) := by decide +kernel
theorem dL_834 : decode code 834 = .ok (.aload_n 2, 1) := by decide +kernel
theorem dL_835 : decode code 835 = .ok (.aload_n 0, 1) := by decide +kernel
theorem dL_836 : decode code 836 = .ok (.iload 4, 2) := by decide +kernel
theorem dL_838 : decode code 838 = .ok (.iconst 1, 1) := by decide +kernel
theorem dL_839 : decode code 839 = .ok (.iadd, 1) := by decide +kernel
theorem dL_840 : decode code 840 = .ok (.iaload, 1) := by decide +kernel
theorem dL_841 : decode code 841 = .ok (.invokevirtual 126, 3) := by decide +kernel
theorem dL_844 : decode code 844 = .ok (.lstore 6, 2) := by decide +kernel
theorem dL_846 : decode code 846 = .ok (.aload_n 2, 1) := by decide +kernel
theorem dL_847 : decode code 847 = .ok (.invokevirtual 77, 3) := by decide +kernel
theorem dL_850 : decode code 850 = .ok (.iload 5, 2) := by decide +kernel
theorem dL_852 : decode code 852 = .ok (.if_icmp .eq 5, 3) := by decide +kernel
theorem dL_855 : decode code 855 = .ok (.iconst 0, 1) := by decide +kernel
theorem dL_856 : decode code 856 = .ok (.ireturn, 1) := by decide +kernel
theorem dL_857 : decode code 857 = .ok (.iload 5, 2) := by decide +kernel
theorem dL_859 : decode code 859 = .ok (.ifCond .ne 14, 3) := by decide +kernel
theorem dL_862 : decode code 862 = .ok (.aload_n 3, 1) := by decide +kernel
theorem dL_863 : decode code 863 = .ok (.iconst 0, 1) := by decide +kernel
theorem dL_864 : decode code 864 = .ok (.laload, 1) := by decide +kernel
theorem dL_865 : decode code 865 = .ok (.lload 6, 2) := by decide +kernel
theorem dL_867 : decode code 867 = .ok (.lcmp, 1) := by decide +kernel
theorem dL_868 : decode code 868 = .ok (.ifCond .eq 5, 3) := by decide +kernel
theorem dL_871 : decode code 871 = .ok (.iconst 0, 1) := by decide +kernel
theorem dL_872 : decode code 872 = .ok (.ireturn, 1) := by decide +kernel
theorem dL_873 : decode code 873 = .ok (.goto 202, 3) := by decide +kernel
theorem dL_876 : decode code 876 = .ok (.aload_n 1, 1) := by decide +kernel
theorem dL_877 : decode code 877 = .ok (.aload_n 0, 1) := by decide +kernel
theorem dL_878 : decode code 878 = .ok (.iload 4, 2) := by decide +kernel
theorem dL_880 : decode code 880 = .ok (.iconst 1, 1) := by decide +kernel
theorem dL_881 : decode code 881 = .ok (.iadd, 1) := by decide +kernel
theorem dL_882 : decode code 882 = .ok (.iaload, 1) := by decide +kernel
theorem dL_883 : decode code 883 = .ok (.aload_n 3, 1) := by decide +kernel
theorem dL_884 : decode code 884 = .ok (.invokestatic 127, 3) := by decide +kernel
theorem dL_887 : decode code 887 = .ok (.istore 5, 2) := by decide +kernel
theorem dL_889 : decode code 889 = .ok (.aload_n 2, 1) := by decide +kernel
theorem dL_890 : decode code 890 = .ok (.aload_n 0, 1) := by decide +kernel
theorem dL_891 : decode code 891 = .ok (.iload 4, 2) := by decide +kernel
theorem dL_893 : decode code 893 = .ok (.iconst 1, 1) := by decide +kernel
theorem dL_894 : decode code 894 = .ok (.iadd, 1) := by decide +kernel
theorem dL_895 : decode code 895 = .ok (.iaload, 1) := by decide +kernel
theorem dL_896 : decode code 896 = .ok (.invokevirtual 129, 3) := by decide +kernel
theorem dL_899 : decode code 899 = .ok (.istore 6, 2) := by decide +kernel
theorem dL_901 : decode code 901 = .ok (.aload_n 2, 1) := by decide +kernel
theorem dL_902 : decode code 902 = .ok (.invokevirtual 77, 3) := by decide +kernel
theorem dL_905 : decode code 905 = .ok (.iload 5, 2) := by decide +kernel
theorem dL_907 : decode code 907 = .ok (.if_icmp .eq 5, 3) := by decide +kernel
theorem dL_910 : decode code 910 = .ok (.iconst 0, 1) := by decide +kernel
theorem dL_911 : decode code 911 = .ok (.ireturn, 1) := by decide +kernel
theorem dL_912 : decode code 912 = .ok (.iload 5, 2) := by decide +kernel
theorem dL_914 : decode code 914 = .ok (.ifCond .ne 22, 3) := by decide +kernel
theorem dL_917 : decode code 917 = .ok (.aload_n 3, 1) := by decide +kernel
theorem dL_918 : decode code 918 = .ok (.iconst 0, 1) := by decide +kernel
theorem dL_919 : decode code 919 = .ok (.laload, 1) := by decide +kernel
theorem dL_920 : decode code 920 = .ok (.iload 6, 2) := by decide +kernel
theorem dL_922 : decode code 922 = .ok (.ifCond .eq 7, 3) := by decide +kernel
theorem dL_925 : decode code 925 = .ok (.lconst 1, 1) := by decide +kernel
theorem dL_926 : decode code 926 = .ok (.goto 4, 3) := by decide +kernel
theorem dL_929 : decode code 929 = .ok (.lconst 0, 1) := by decide +kernel
theorem dL_930 : decode code 930 = .ok (.lcmp, 1) := by decide +kernel
theorem dL_931 : decode code 931 = .ok (.ifCond .eq 5, 3) := by decide +kernel
theorem dL_934 : decode code 934 = .ok (.iconst 0, 1) := by decide +kernel
theorem dL_935 : decode code 935 = .ok (.ireturn, 1) := by decide +kernel
theorem dL_936 : decode code 936 = .ok (.goto 139, 3) := by decide +kernel
theorem dL_939 : decode code 939 = .ok (.aload_n 1, 1) := by decide +kernel
theorem dL_940 : decode code 940 = .ok (.invokevirtual 130, 3) := by decide +kernel
theorem dL_943 : decode code 943 = .ok (.aload_n 2, 1) := by decide +kernel
theorem dL_944 : decode code 944 = .ok (.invokevirtual 133, 3) := by decide +kernel
theorem dL_947 : decode code 947 = .ok (.if_icmp .eq 128, 3) := by decide +kernel
theorem dL_950 : decode code 950 = .ok (.iconst 0, 1) := by decide +kernel
theorem dL_951 : decode code 951 = .ok (.ireturn, 1) := by decide +kernel
theorem dL_952 : decode code 952 = .ok (.aload_n 1, 1) := by decide +kernel
theorem dL_953 : decode code 953 = .ok (.aload_n 0, 1) := by decide +kernel
theorem dL_954 : decode code 954 = .ok (.iload 4, 2) := by decide +kernel
theorem dL_956 : decode code 956 = .ok (.iconst 1, 1) := by decide +kernel
theorem dL_957 : decode code 957 = .ok (.iadd, 1) := by decide +kernel
theorem dL_958 : decode code 958 = .ok (.iaload, 1) := by decide +kernel
theorem dL_959 : decode code 959 = .ok (.aload_n 3, 1) := by decide +kernel
theorem dL_960 : decode code 960 = .ok (.invokestatic 134, 3) := by decide +kernel
theorem dL_963 : decode code 963 = .ok (.istore 5, 2) := by decide +kernel
theorem dL_965 : decode code 965 = .ok (.aload_n 2, 1) := by decide +kernel
theorem dL_966 : decode code 966 = .ok (.aload_n 0, 1) := by decide +kernel
theorem dL_967 : decode code 967 = .ok (.iload 4, 2) := by decide +kernel
theorem dL_969 : decode code 969 = .ok (.iconst 1, 1) := by decide +kernel
theorem dL_970 : decode code 970 = .ok (.iadd, 1) := by decide +kernel
theorem dL_971 : decode code 971 = .ok (.iaload, 1) := by decide +kernel
theorem dL_972 : decode code 972 = .ok (.invokevirtual 136, 3) := by decide +kernel
theorem dL_975 : decode code 975 = .ok (.lstore 6, 2) := by decide +kernel
theorem dL_977 : decode code 977 = .ok (.aload_n 2, 1) := by decide +kernel
theorem dL_978 : decode code 978 = .ok (.invokevirtual 77, 3) := by decide +kernel
theorem dL_981 : decode code 981 = .ok (.iload 5, 2) := by decide +kernel
theorem dL_983 : decode code 983 = .ok (.if_icmp .eq 5, 3) := by decide +kernel
theorem dL_986 : decode code 986 = .ok (.iconst 0, 1) := by decide +kernel
theorem dL_987 : decode code 987 = .ok (.ireturn, 1) := by decide +kernel
theorem dL_988 : decode code 988 = .ok (.iload 5, 2) := by decide +kernel
theorem dL_990 : decode code 990 = .ok (.ifCond .ne 14, 3) := by decide +kernel
theorem dL_993 : decode code 993 = .ok (.aload_n 3, 1) := by decide +kernel
theorem dL_994 : decode code 994 = .ok (.iconst 0, 1) := by decide +kernel
theorem dL_995 : decode code 995 = .ok (.laload, 1) := by decide +kernel
theorem dL_996 : decode code 996 = .ok (.lload 6, 2) := by decide +kernel
theorem dL_998 : decode code 998 = .ok (.lcmp, 1) := by decide +kernel
theorem dL_999 : decode code 999 = .ok (.ifCond .eq 5, 3) := by decide +kernel
theorem dL_1002 : decode code 1002 = .ok (.iconst 0, 1) := by decide +kernel
theorem dL_1003 : decode code 1003 = .ok (.ireturn, 1) := by decide +kernel
theorem dL_1004 : decode code 1004 = .ok (.goto 71, 3) := by decide +kernel
theorem dL_1007 : decode code 1007 = .ok (.aload_n 1, 1) := by decide +kernel
theorem dL_1008 : decode code 1008 = .ok (.aload_n 0, 1) := by decide +kernel
theorem dL_1009 : decode code 1009 = .ok (.iload 4, 2) := by decide +kernel
theorem dL_1011 : decode code 1011 = .ok (.iconst 1, 1) := by decide +kernel
theorem dL_1012 : decode code 1012 = .ok (.iadd, 1) := by decide +kernel
theorem dL_1013 : decode code 1013 = .ok (.iaload, 1) := by decide +kernel
theorem dL_1014 : decode code 1014 = .ok (.aload_n 3, 1) := by decide +kernel
theorem dL_1015 : decode code 1015 = .ok (.invokestatic 137, 3) := by decide +kernel
theorem dL_1018 : decode code 1018 = .ok (.istore 5, 2) := by decide +kernel
theorem dL_1020 : decode code 1020 = .ok (.aload_n 2, 1) := by decide +kernel
theorem dL_1021 : decode code 1021 = .ok (.aload_n 0, 1) := by decide +kernel
theorem dL_1022 : decode code 1022 = .ok (.iload 4, 2) := by decide +kernel
theorem dL_1024 : decode code 1024 = .ok (.iconst 1, 1) := by decide +kernel
theorem dL_1025 : decode code 1025 = .ok (.iadd, 1) := by decide +kernel
theorem dL_1026 : decode code 1026 = .ok (.iaload, 1) := by decide +kernel
theorem dL_1027 : decode code 1027 = .ok (.invokevirtual 139, 3) := by decide +kernel
theorem dL_1030 : decode code 1030 = .ok (.lstore 6, 2) := by decide +kernel
theorem dL_1032 : decode code 1032 = .ok (.aload_n 2, 1) := by decide +kernel
theorem dL_1033 : decode code 1033 = .ok (.invokevirtual 77, 3) := by decide +kernel
theorem dL_1036 : decode code 1036 = .ok (.iload 5, 2) := by decide +kernel
theorem dL_1038 : decode code 1038 = .ok (.if_icmp .eq 5, 3) := by decide +kernel
theorem dL_1041 : decode code 1041 = .ok (.iconst 0, 1) := by decide +kernel
theorem dL_1042 : decode code 1042 = .ok (.ireturn, 1) := by decide +kernel
theorem dL_1043 : decode code 1043 = .ok (.iload 5, 2) := by decide +kernel
theorem dL_1045 : decode code 1045 = .ok (.ifCond .ne 14, 3) := by decide +kernel
theorem dL_1048 : decode code 1048 = .ok (.aload_n 3, 1) := by decide +kernel
theorem dL_1049 : decode code 1049 = .ok (.iconst 0, 1) := by decide +kernel
theorem dL_1050 : decode code 1050 = .ok (.laload, 1) := by decide +kernel
theorem dL_1051 : decode code 1051 = .ok (.lload 6, 2) := by decide +kernel
theorem dL_1053 : decode code 1053 = .ok (.lcmp, 1) := by decide +kernel
theorem dL_1054 : decode code 1054 = .ok (.ifCond .eq 5, 3) := by decide +kernel
theorem dL_1057 : decode code 1057 = .ok (.iconst 0, 1) := by decide +kernel
theorem dL_1058 : decode code 1058 = .ok (.ireturn, 1) := by decide +kernel
theorem dL_1059 : decode code 1059 = .ok (.goto 16, 3) := by decide +kernel
theorem dL_1062 : decode code 1062 = .ok (.aload_n 1, 1) := by decide +kernel
theorem dL_1063 : decode code 1063 = .ok (.invokevirtual 140, 3) := by decide +kernel
theorem dL_1066 : decode code 1066 = .ok (.aload_n 2, 1) := by decide +kernel
theorem dL_1067 : decode code 1067 = .ok (.invokevirtual 143, 3) := by decide +kernel
theorem dL_1070 : decode code 1070 = .ok (.if_icmp .eq 5, 3) := by decide +kernel
theorem dL_1073 : decode code 1073 = .ok (.iconst 0, 1) := by decide +kernel
theorem dL_1074 : decode code 1074 = .ok (.ireturn, 1) := by decide +kernel
theorem dL_1075 : decode code 1075 = .ok (.iinc 4 5, 3) := by decide +kernel
theorem dL_1078 : decode code 1078 = .ok (.goto (-1055), 3) := by decide +kernel
theorem dL_1081 : decode code 1081 = .ok (.iconst 1, 1) := by decide +kernel
theorem dL_1082 : decode code 1082 = .ok (.ireturn, 1) := by decide +kernel
