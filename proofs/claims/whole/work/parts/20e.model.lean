def m_J (z : SM) : Prop := (0 ≤ (m_cards z).toInt ∧ (m_cards z).toInt ≤ 20) ∧ (0 ≤ (m_outs z).toInt ∧ (m_outs z).toInt ≤ 40) ∧ 0 ≤ (m_upper z).toInt
theorem rem10 (x : Int32) : (x % 10).toInt ≤ (10 : Nat) := by
  have e : (10 : Int32).toInt = 10 := by decide
  rw [Kit.i32_rem, e]
  have := (tmod_bounds (a := x.toInt) (M := 10) (by decide)).2
  omega
theorem op99 {o : Int32} (h : fMo_isOperation o = true) : o.toInt ≤ (99 : Nat) := by
  by_cases h0 : o.toInt ≤ 99
  · omega
  · exfalso
    have hne : ∀ k : Int32, k.toInt ≤ 99 → ¬ o = k := fun k hk e => by rw [e] at h0; omega
    have hle : ∀ k : Int32, k.toInt ≤ 99 → ¬ o ≤ k := fun k hk e => by rw [Int32.le_iff_toInt_le] at e; omega
    have hlt : ∀ k : Int32, k.toInt ≤ 99 → ¬ o < k := fun k hk e => by rw [Int32.lt_iff_toInt_lt] at e; omega
    have hgt : (99 : Int32) < o := by
      rw [Int32.lt_iff_toInt_lt]
      have e : (99 : Int32).toInt = 99 := by decide
      omega
    have hr : fMo_reads o = false := by
      unfold fMo_reads fMo_reads_60
      simp [hne 10 (by decide), hne 11 (by decide), hne 14 (by decide), hne 15 (by decide), hne 16 (by decide), hne 19 (by decide), hne 60 (by decide), hne 61 (by decide), hne 69 (by decide), hne 71 (by decide), hne 84 (by decide), hle 67 (by decide)]
    have hw : fMo_writes o = false := by
      unfold fMo_writes fMo_writes_12
      simp [hne 24 (by decide), hne 70 (by decide), hle 22 (by decide)]
    have hs : fMo_shifts o = false := by
      unfold fMo_shifts
      simp [hne 30 (by decide), hne 31 (by decide), hne 35 (by decide)]
    unfold fMo_isOperation fMo_isOperation_42 at h
    simp [hr, hw, hs, hne 0 (by decide), hne 1 (by decide), hle 47 (by decide), hgt] at h
theorem dMo_step_0 : decode ccMo_step 0 = .ok (.aload_n 0, 1) := by decide +kernel
theorem dMo_step_1 : decode ccMo_step 1 = .ok (.getfield 108, 3) := by decide +kernel
theorem dMo_step_4 : decode ccMo_step 4 = .ok (.istore_n 1, 1) := by decide +kernel
theorem dMo_step_5 : decode ccMo_step 5 = .ok (.iload_n 1, 1) := by decide +kernel
theorem dMo_step_6 : decode ccMo_step 6 = .ok (.invokestatic 75, 3) := by decide +kernel
theorem dMo_step_9 : decode ccMo_step 9 = .ok (.ifCond .ne 10, 3) := by decide +kernel
theorem dMo_step_12 : decode ccMo_step 12 = .ok (.aload_n 0, 1) := by decide +kernel
theorem dMo_step_13 : decode ccMo_step 13 = .ok (.iconst 2, 1) := by decide +kernel
theorem dMo_step_14 : decode ccMo_step 14 = .ok (.iload_n 1, 1) := by decide +kernel
theorem dMo_step_15 : decode ccMo_step 15 = .ok (.invokevirtual 134, 3) := by decide +kernel
theorem dMo_step_18 : decode ccMo_step 18 = .ok (.ireturn, 1) := by decide +kernel
theorem dMo_step_19 : decode ccMo_step 19 = .ok (.aload_n 0, 1) := by decide +kernel
theorem dMo_step_20 : decode ccMo_step 20 = .ok (.iload_n 1, 1) := by decide +kernel
theorem dMo_step_21 : decode ccMo_step 21 = .ok (.invokevirtual 170, 3) := by decide +kernel
theorem dMo_step_24 : decode ccMo_step 24 = .ok (.aload_n 0, 1) := by decide +kernel
theorem dMo_step_25 : decode ccMo_step 25 = .ok (.iload_n 1, 1) := by decide +kernel
theorem dMo_step_26 : decode ccMo_step 26 = .ok (.invokevirtual 83, 3) := by decide +kernel
theorem dMo_step_29 : decode ccMo_step 29 = .ok (.lstore_n 2, 1) := by decide +kernel
theorem dMo_step_30 : decode ccMo_step 30 = .ok (.lload_n 2, 1) := by decide +kernel
theorem dMo_step_31 : decode ccMo_step 31 = .ok (.lconst 0, 1) := by decide +kernel
theorem dMo_step_32 : decode ccMo_step 32 = .ok (.lcmp, 1) := by decide +kernel
theorem dMo_step_33 : decode ccMo_step 33 = .ok (.ifCond .ge 10, 3) := by decide +kernel
theorem dMo_step_36 : decode ccMo_step 36 = .ok (.aload_n 0, 1) := by decide +kernel
theorem dMo_step_37 : decode ccMo_step 37 = .ok (.iconst 1, 1) := by decide +kernel
theorem dMo_step_38 : decode ccMo_step 38 = .ok (.iload_n 1, 1) := by decide +kernel
theorem dMo_step_39 : decode ccMo_step 39 = .ok (.invokevirtual 134, 3) := by decide +kernel
theorem dMo_step_42 : decode ccMo_step 42 = .ok (.ireturn, 1) := by decide +kernel
theorem dMo_step_43 : decode ccMo_step 43 = .ok (.lload_n 2, 1) := by decide +kernel
theorem dMo_step_44 : decode ccMo_step 44 = .ok (.ldc2_w 166, 3) := by decide +kernel
theorem dMo_step_47 : decode ccMo_step 47 = .ok (.ldiv, 1) := by decide +kernel
theorem dMo_step_48 : decode ccMo_step 48 = .ok (.l2i, 1) := by decide +kernel
theorem dMo_step_49 : decode ccMo_step 49 = .ok (.istore 4, 2) := by decide +kernel
theorem dMo_step_51 : decode ccMo_step 51 = .ok (.lload_n 2, 1) := by decide +kernel
theorem dMo_step_52 : decode ccMo_step 52 = .ok (.ldc2_w 164, 3) := by decide +kernel
theorem dMo_step_55 : decode ccMo_step 55 = .ok (.ldiv, 1) := by decide +kernel
theorem dMo_step_56 : decode ccMo_step 56 = .ok (.ldc2_w 164, 3) := by decide +kernel
theorem dMo_step_59 : decode ccMo_step 59 = .ok (.lrem, 1) := by decide +kernel
theorem dMo_step_60 : decode ccMo_step 60 = .ok (.l2i, 1) := by decide +kernel
theorem dMo_step_61 : decode ccMo_step 61 = .ok (.istore 5, 2) := by decide +kernel
theorem dMo_step_63 : decode ccMo_step 63 = .ok (.lload_n 2, 1) := by decide +kernel
theorem dMo_step_64 : decode ccMo_step 64 = .ok (.ldc2_w 164, 3) := by decide +kernel
theorem dMo_step_67 : decode ccMo_step 67 = .ok (.lrem, 1) := by decide +kernel
theorem dMo_step_68 : decode ccMo_step 68 = .ok (.l2i, 1) := by decide +kernel
theorem dMo_step_69 : decode ccMo_step 69 = .ok (.istore 6, 2) := by decide +kernel
theorem dMo_step_71 : decode ccMo_step 71 = .ok (.iload 4, 2) := by decide +kernel
theorem dMo_step_73 : decode ccMo_step 73 = .ok (.invokestatic 174, 3) := by decide +kernel
theorem dMo_step_76 : decode ccMo_step 76 = .ok (.ifCond .ne 10, 3) := by decide +kernel
theorem dMo_step_79 : decode ccMo_step 79 = .ok (.aload_n 0, 1) := by decide +kernel
theorem dMo_step_80 : decode ccMo_step 80 = .ok (.iconst 2, 1) := by decide +kernel
theorem dMo_step_81 : decode ccMo_step 81 = .ok (.iload_n 1, 1) := by decide +kernel
theorem dMo_step_82 : decode ccMo_step 82 = .ok (.invokevirtual 134, 3) := by decide +kernel
theorem dMo_step_85 : decode ccMo_step 85 = .ok (.ireturn, 1) := by decide +kernel
theorem dMo_step_86 : decode ccMo_step 86 = .ok (.iload 4, 2) := by decide +kernel
theorem dMo_step_88 : decode ccMo_step 88 = .ok (.invokestatic 90, 3) := by decide +kernel
theorem dMo_step_91 : decode ccMo_step 91 = .ok (.ifCond .ne 11, 3) := by decide +kernel
theorem dMo_step_94 : decode ccMo_step 94 = .ok (.iload 4, 2) := by decide +kernel
theorem dMo_step_96 : decode ccMo_step 96 = .ok (.invokestatic 93, 3) := by decide +kernel
theorem dMo_step_99 : decode ccMo_step 99 = .ok (.ifCond .eq 108, 3) := by decide +kernel
theorem dMo_step_102 : decode ccMo_step 102 = .ok (.iload 5, 2) := by decide +kernel
theorem dMo_step_104 : decode ccMo_step 104 = .ok (.invokestatic 75, 3) := by decide +kernel
theorem dMo_step_107 : decode ccMo_step 107 = .ok (.ifCond .ne 10, 3) := by decide +kernel
theorem dMo_step_110 : decode ccMo_step 110 = .ok (.aload_n 0, 1) := by decide +kernel
theorem dMo_step_111 : decode ccMo_step 111 = .ok (.iconst 2, 1) := by decide +kernel
theorem dMo_step_112 : decode ccMo_step 112 = .ok (.iload_n 1, 1) := by decide +kernel
theorem dMo_step_113 : decode ccMo_step 113 = .ok (.invokevirtual 134, 3) := by decide +kernel
theorem dMo_step_116 : decode ccMo_step 116 = .ok (.ireturn, 1) := by decide +kernel
theorem dMo_step_117 : decode ccMo_step 117 = .ok (.aload_n 0, 1) := by decide +kernel
theorem dMo_step_118 : decode ccMo_step 118 = .ok (.iload 5, 2) := by decide +kernel
theorem dMo_step_120 : decode ccMo_step 120 = .ok (.invokevirtual 170, 3) := by decide +kernel
theorem dMo_step_123 : decode ccMo_step 123 = .ok (.aload_n 0, 1) := by decide +kernel
theorem dMo_step_124 : decode ccMo_step 124 = .ok (.iload 5, 2) := by decide +kernel
theorem dMo_step_126 : decode ccMo_step 126 = .ok (.invokevirtual 83, 3) := by decide +kernel
theorem dMo_step_129 : decode ccMo_step 129 = .ok (.lstore 7, 2) := by decide +kernel
theorem dMo_step_131 : decode ccMo_step 131 = .ok (.iload 4, 2) := by decide +kernel
theorem dMo_step_133 : decode ccMo_step 133 = .ok (.invokestatic 90, 3) := by decide +kernel
theorem dMo_step_136 : decode ccMo_step 136 = .ok (.ifCond .eq 17, 3) := by decide +kernel
theorem dMo_step_139 : decode ccMo_step 139 = .ok (.lload 7, 2) := by decide +kernel
theorem dMo_step_141 : decode ccMo_step 141 = .ok (.lconst 0, 1) := by decide +kernel
theorem dMo_step_142 : decode ccMo_step 142 = .ok (.lcmp, 1) := by decide +kernel
theorem dMo_step_143 : decode ccMo_step 143 = .ok (.ifCond .ge 10, 3) := by decide +kernel
theorem dMo_step_146 : decode ccMo_step 146 = .ok (.aload_n 0, 1) := by decide +kernel
theorem dMo_step_147 : decode ccMo_step 147 = .ok (.iconst 1, 1) := by decide +kernel
theorem dMo_step_148 : decode ccMo_step 148 = .ok (.iload_n 1, 1) := by decide +kernel
theorem dMo_step_149 : decode ccMo_step 149 = .ok (.invokevirtual 134, 3) := by decide +kernel
theorem dMo_step_152 : decode ccMo_step 152 = .ok (.ireturn, 1) := by decide +kernel
theorem dMo_step_153 : decode ccMo_step 153 = .ok (.iload 4, 2) := by decide +kernel
theorem dMo_step_155 : decode ccMo_step 155 = .ok (.invokestatic 90, 3) := by decide +kernel
theorem dMo_step_158 : decode ccMo_step 158 = .ok (.ifCond .eq 24, 3) := by decide +kernel
theorem dMo_step_161 : decode ccMo_step 161 = .ok (.aload_n 0, 1) := by decide +kernel
theorem dMo_step_162 : decode ccMo_step 162 = .ok (.iload 4, 2) := by decide +kernel
theorem dMo_step_164 : decode ccMo_step 164 = .ok (.iload 5, 2) := by decide +kernel
theorem dMo_step_166 : decode ccMo_step 166 = .ok (.lload 7, 2) := by decide +kernel
theorem dMo_step_168 : decode ccMo_step 168 = .ok (.aload_n 0, 1) := by decide +kernel
theorem dMo_step_169 : decode ccMo_step 169 = .ok (.getfield 13, 3) := by decide +kernel
theorem dMo_step_172 : decode ccMo_step 172 = .ok (.iload 5, 2) := by decide +kernel
theorem dMo_step_174 : decode ccMo_step 174 = .ok (.baload, 1) := by decide +kernel
theorem dMo_step_175 : decode ccMo_step 175 = .ok (.iload_n 1, 1) := by decide +kernel
theorem dMo_step_176 : decode ccMo_step 176 = .ok (.invokevirtual 177, 3) := by decide +kernel
theorem dMo_step_179 : decode ccMo_step 179 = .ok (.goto 12, 3) := by decide +kernel
theorem dMo_step_182 : decode ccMo_step 182 = .ok (.aload_n 0, 1) := by decide +kernel
theorem dMo_step_183 : decode ccMo_step 183 = .ok (.iload 4, 2) := by decide +kernel
theorem dMo_step_185 : decode ccMo_step 185 = .ok (.iload 5, 2) := by decide +kernel
theorem dMo_step_187 : decode ccMo_step 187 = .ok (.iload_n 1, 1) := by decide +kernel
theorem dMo_step_188 : decode ccMo_step 188 = .ok (.invokevirtual 181, 3) := by decide +kernel
theorem dMo_step_191 : decode ccMo_step 191 = .ok (.istore 9, 2) := by decide +kernel
theorem dMo_step_193 : decode ccMo_step 193 = .ok (.iload 9, 2) := by decide +kernel
theorem dMo_step_195 : decode ccMo_step 195 = .ok (.ifCond .eq 9, 3) := by decide +kernel
theorem dMo_step_198 : decode ccMo_step 198 = .ok (.aload_n 0, 1) := by decide +kernel
theorem dMo_step_199 : decode ccMo_step 199 = .ok (.iload 6, 2) := by decide +kernel
theorem dMo_step_201 : decode ccMo_step 201 = .ok (.putfield 108, 3) := by decide +kernel
theorem dMo_step_204 : decode ccMo_step 204 = .ok (.iload 9, 2) := by decide +kernel
theorem dMo_step_206 : decode ccMo_step 206 = .ok (.ireturn, 1) := by decide +kernel
theorem dMo_step_207 : decode ccMo_step 207 = .ok (.aload_n 0, 1) := by decide +kernel
theorem dMo_step_208 : decode ccMo_step 208 = .ok (.iload 4, 2) := by decide +kernel
theorem dMo_step_210 : decode ccMo_step 210 = .ok (.invokevirtual 185, 3) := by decide +kernel
theorem dMo_step_213 : decode ccMo_step 213 = .ok (.istore 7, 2) := by decide +kernel
theorem dMo_step_215 : decode ccMo_step 215 = .ok (.aload_n 0, 1) := by decide +kernel
theorem dMo_step_216 : decode ccMo_step 216 = .ok (.iload 7, 2) := by decide +kernel
theorem dMo_step_218 : decode ccMo_step 218 = .ok (.ifCond .eq 8, 3) := by decide +kernel
theorem dMo_step_221 : decode ccMo_step 221 = .ok (.iload 5, 2) := by decide +kernel
theorem dMo_step_223 : decode ccMo_step 223 = .ok (.goto 5, 3) := by decide +kernel
theorem dMo_step_226 : decode ccMo_step 226 = .ok (.iload 6, 2) := by decide +kernel
theorem dMo_step_228 : decode ccMo_step 228 = .ok (.putfield 108, 3) := by decide +kernel
theorem dMo_step_231 : decode ccMo_step 231 = .ok (.iload 4, 2) := by decide +kernel
theorem dMo_step_233 : decode ccMo_step 233 = .ok (.bipush 47, 2) := by decide +kernel
theorem dMo_step_235 : decode ccMo_step 235 = .ok (.if_icmp .ne 8, 3) := by decide +kernel
theorem dMo_step_238 : decode ccMo_step 238 = .ok (.aload_n 0, 1) := by decide +kernel
theorem dMo_step_239 : decode ccMo_step 239 = .ok (.iconst 0, 1) := by decide +kernel
theorem dMo_step_240 : decode ccMo_step 240 = .ok (.putfield 121, 3) := by decide +kernel
theorem dMo_step_243 : decode ccMo_step 243 = .ok (.iload 4, 2) := by decide +kernel
theorem dMo_step_245 : decode ccMo_step 245 = .ok (.iconst 1, 1) := by decide +kernel
theorem dMo_step_246 : decode ccMo_step 246 = .ok (.if_icmp .ne 8, 3) := by decide +kernel
theorem dMo_step_249 : decode ccMo_step 249 = .ok (.aload_n 0, 1) := by decide +kernel
theorem dMo_step_250 : decode ccMo_step 250 = .ok (.iconst 0, 1) := by decide +kernel
theorem dMo_step_251 : decode ccMo_step 251 = .ok (.putfield 105, 3) := by decide +kernel
theorem dMo_step_254 : decode ccMo_step 254 = .ok (.iload 4, 2) := by decide +kernel
theorem dMo_step_256 : decode ccMo_step 256 = .ok (.bipush 30, 2) := by decide +kernel
theorem dMo_step_258 : decode ccMo_step 258 = .ok (.if_icmp .eq 10, 3) := by decide +kernel
theorem dMo_step_261 : decode ccMo_step 261 = .ok (.iload 4, 2) := by decide +kernel
theorem dMo_step_263 : decode ccMo_step 263 = .ok (.bipush 31, 2) := by decide +kernel
theorem dMo_step_265 : decode ccMo_step 265 = .ok (.if_icmp .ne 44, 3) := by decide +kernel
theorem dMo_step_268 : decode ccMo_step 268 = .ok (.aload_n 0, 1) := by decide +kernel
theorem dMo_step_269 : decode ccMo_step 269 = .ok (.iload 4, 2) := by decide +kernel
theorem dMo_step_271 : decode ccMo_step 271 = .ok (.bipush 31, 2) := by decide +kernel
theorem dMo_step_273 : decode ccMo_step 273 = .ok (.if_icmp .ne 16, 3) := by decide +kernel
theorem dMo_step_276 : decode ccMo_step 276 = .ok (.iload 5, 2) := by decide +kernel
theorem dMo_step_278 : decode ccMo_step 278 = .ok (.bipush 10, 2) := by decide +kernel
theorem dMo_step_280 : decode ccMo_step 280 = .ok (.irem, 1) := by decide +kernel
theorem dMo_step_281 : decode ccMo_step 281 = .ok (.ifCond .ne 8, 3) := by decide +kernel
theorem dMo_step_284 : decode ccMo_step 284 = .ok (.bipush 10, 2) := by decide +kernel
theorem dMo_step_286 : decode ccMo_step 286 = .ok (.goto 8, 3) := by decide +kernel
theorem dMo_step_289 : decode ccMo_step 289 = .ok (.iload 5, 2) := by decide +kernel
theorem dMo_step_291 : decode ccMo_step 291 = .ok (.bipush 10, 2) := by decide +kernel
theorem dMo_step_293 : decode ccMo_step 293 = .ok (.irem, 1) := by decide +kernel
theorem dMo_step_294 : decode ccMo_step 294 = .ok (.iload 4, 2) := by decide +kernel
theorem dMo_step_296 : decode ccMo_step 296 = .ok (.bipush 31, 2) := by decide +kernel
theorem dMo_step_298 : decode ccMo_step 298 = .ok (.if_icmp .ne 7, 3) := by decide +kernel
theorem dMo_step_301 : decode ccMo_step 301 = .ok (.iconst 1, 1) := by decide +kernel
theorem dMo_step_302 : decode ccMo_step 302 = .ok (.goto 4, 3) := by decide +kernel
theorem dMo_step_305 : decode ccMo_step 305 = .ok (.iconst 0, 1) := by decide +kernel
theorem dMo_step_306 : decode ccMo_step 306 = .ok (.invokevirtual 188, 3) := by decide +kernel
theorem dMo_step_309 : decode ccMo_step 309 = .ok (.iload 4, 2) := by decide +kernel
theorem dMo_step_311 : decode ccMo_step 311 = .ok (.bipush 35, 2) := by decide +kernel
theorem dMo_step_313 : decode ccMo_step 313 = .ok (.if_icmp .ne 12, 3) := by decide +kernel
theorem dMo_step_316 : decode ccMo_step 316 = .ok (.aload_n 0, 1) := by decide +kernel
theorem dMo_step_317 : decode ccMo_step 317 = .ok (.iload 5, 2) := by decide +kernel
theorem dMo_step_319 : decode ccMo_step 319 = .ok (.bipush 10, 2) := by decide +kernel
theorem dMo_step_321 : decode ccMo_step 321 = .ok (.irem, 1) := by decide +kernel
theorem dMo_step_322 : decode ccMo_step 322 = .ok (.invokevirtual 192, 3) := by decide +kernel
theorem dMo_step_325 : decode ccMo_step 325 = .ok (.aload_n 0, 1) := by decide +kernel
theorem dMo_step_326 : decode ccMo_step 326 = .ok (.dup, 1) := by decide +kernel
theorem dMo_step_327 : decode ccMo_step 327 = .ok (.getfield 99, 3) := by decide +kernel
theorem dMo_step_330 : decode ccMo_step 330 = .ok (.iload 4, 2) := by decide +kernel
theorem dMo_step_332 : decode ccMo_step 332 = .ok (.iload 5, 2) := by decide +kernel
theorem dMo_step_334 : decode ccMo_step 334 = .ok (.invokestatic 146, 3) := by decide +kernel
theorem dMo_step_337 : decode ccMo_step 337 = .ok (.i2l, 1) := by decide +kernel
theorem dMo_step_338 : decode ccMo_step 338 = .ok (.ladd, 1) := by decide +kernel
theorem dMo_step_339 : decode ccMo_step 339 = .ok (.putfield 99, 3) := by decide +kernel
theorem dMo_step_342 : decode ccMo_step 342 = .ok (.iconst 1, 1) := by decide +kernel
theorem dMo_step_343 : decode ccMo_step 343 = .ok (.ireturn, 1) := by decide +kernel
def fMo_step_325  (z : SM) (v4 : Int32) (v5 : Int32) : Bool × SM :=
  (true, m_time_s z ((m_time z) + ((fMo_fixed v4 v5).toInt64)))
def fMo_step_309  (z : SM) (v4 : Int32) (v5 : Int32) : Bool × SM :=
  (if v4 = (35 : Int32) then fMo_step_325 (fMo_shiftLeft z (v5 % 10)) v4 v5 else fMo_step_325 z v4 v5)
def fMo_step_306  (z : SM) (s1 : Int32) (s2 : Bool) (v4 : Int32) (v5 : Int32) : Bool × SM :=
  fMo_step_309 (fMo_shiftRight z s1 s2) v4 v5
def fMo_step_294  (z : SM) (s1 : Int32) (v4 : Int32) (v5 : Int32) : Bool × SM :=
  (if v4 = (31 : Int32) then fMo_step_306 z s1 true v4 v5 else fMo_step_306 z s1 false v4 v5)
def fMo_step_289  (z : SM) (v4 : Int32) (v5 : Int32) : Bool × SM :=
  fMo_step_294 z (v5 % 10) v4 v5
def fMo_step_268  (z : SM) (v4 : Int32) (v5 : Int32) : Bool × SM :=
  (if v4 = (31 : Int32) then (if (v5 % 10) = 0 then fMo_step_294 z 10 v4 v5 else fMo_step_289 z v4 v5) else fMo_step_289 z v4 v5)
def fMo_step_254  (z : SM) (v4 : Int32) (v5 : Int32) : Bool × SM :=
  (if v4 = (30 : Int32) then fMo_step_268 z v4 v5 else (if v4 = (31 : Int32) then fMo_step_268 z v4 v5 else fMo_step_309 z v4 v5))
def fMo_step_243  (z : SM) (v4 : Int32) (v5 : Int32) : Bool × SM :=
  (if v4 = (1 : Int32) then fMo_step_254 (m_fault_s z 0) v4 v5 else fMo_step_254 z v4 v5)
def fMo_step_228  (z : SM) (s1 : Int32) (v4 : Int32) (v5 : Int32) : Bool × SM :=
  (if v4 = (47 : Int32) then fMo_step_243 (m_ovf_s (m_nxt_s z s1) false) v4 v5 else fMo_step_243 (m_nxt_s z s1) v4 v5)
def fMo_step_215  (z : SM) (v4 : Int32) (v5 : Int32) (v6 : Int32) (v7 : Bool) : Bool × SM :=
  (if v7 = true then fMo_step_228 z v5 v4 v5 else fMo_step_228 z v6 v4 v5)
def fMo_step_193  (z : SM) (v6 : Int32) (v9 : Bool) : Bool × SM :=
  (if v9 = true then (v9, m_nxt_s z v6) else (v9, z))
def fMo_step_191  (z : SM) (s0 : Bool) (v6 : Int32) : Bool × SM :=
  fMo_step_193 z v6 s0
def fMo_step_153  (z : SM) (v1 : Int32) (v4 : Int32) (v5 : Int32) (v6 : Int32) (v7 : Int64) : Bool × SM :=
  (if (fMo_reads v4) = true then fMo_step_191 ((fMo_doRead z v4 v5 v7 (m_dmin z v5.toNatClampNeg) v1).2) ((fMo_doRead z v4 v5 v7 (m_dmin z v5.toNatClampNeg) v1).1) v6 else fMo_step_191 ((fMo_doWrite z v4 v5 v1).2) ((fMo_doWrite z v4 v5 v1).1) v6)
def fMo_step_131  (z : SM) (v1 : Int32) (v4 : Int32) (v5 : Int32) (v6 : Int32) (v7 : Int64) : Bool × SM :=
  (if (fMo_reads v4) = true then (if 0 ≤ v7 then fMo_step_153 z v1 v4 v5 v6 v7 else ((fMo_stop z 1 v1).1, (fMo_stop z 1 v1).2)) else fMo_step_153 z v1 v4 v5 v6 v7)
def fMo_step_102  (z : SM) (v1 : Int32) (v4 : Int32) (v5 : Int32) (v6 : Int32) : Bool × SM :=
  (if (fMo_isAddress v5) = true then fMo_step_131 (fMo_access z v5) v1 v4 v5 v6 (fMo_value (fMo_access z v5) v5) else ((fMo_stop z 2 v1).1, (fMo_stop z 2 v1).2))
def fMo_step_71  (z : SM) (v1 : Int32) (v4 : Int32) (v5 : Int32) (v6 : Int32) : Bool × SM :=
  (if (fMo_isOperation v4) = true then (if (fMo_reads v4) = true then fMo_step_102 z v1 v4 v5 v6 else (if (fMo_writes v4) = true then fMo_step_102 z v1 v4 v5 v6 else fMo_step_215 z v4 v5 v6 (fMo_branches z v4))) else ((fMo_stop z 2 v1).1, (fMo_stop z 2 v1).2))
def fMo_step_30  (z : SM) (v1 : Int32) (v2 : Int64) : Bool × SM :=
  (if 0 ≤ v2 then fMo_step_71 z v1 ((v2 / 100000000).toInt32) (((v2 / 10000) % 10000).toInt32) ((v2 % 10000).toInt32) else ((fMo_stop z 1 v1).1, (fMo_stop z 1 v1).2))
def fMo_step_5  (z : SM) (v1 : Int32) : Bool × SM :=
  (if (fMo_isAddress v1) = true then fMo_step_30 (fMo_access z v1) v1 (fMo_value (fMo_access z v1) v1) else ((fMo_stop z 2 v1).1, (fMo_stop z 2 v1).2))
def fMo_step (z0 : SM)  : Bool × SM :=
  fMo_step_5 z0 (m_nxt z0)
set_option maxHeartbeats 4000000 in
set_option maxRecDepth 100000 in
theorem kMo_step (l : Launch) (D : va_G) (q : Nat → Nat) (cI cJ cZ : ClassId) (hq : m_inj q) (z0 : SM)  (hJ : m_J z0) : Met l yMo_step wsMo_step { frames := 4, cells := 0, slots := 0, locals := 101 } (va_Pc [.ref (q 0)] (m_C D q cI cJ cZ z0)) (cQw (some (.int (bb ((fMo_step z0).1)))) (m_W D q cI cJ cZ (fMo_step z0).2) (m_qs q)) 0 0 (m_qs q) := by
  refine Met.ofW (cc := ccMo_step) (maxL := 10) (ret := (some .boolean)) (by decide +kernel) rfl ?_
  intro p e s m args below meth c s₁ B hml hv
  obtain ⟨rfl, hP, hK⟩ := hv
  have hx := B.exec
  have hb := B.bytes
  have hr := B.returns
  have hts := atoms_spec (ws := wsMo_step) B.pre
  have hown : s.vm.findClass RMo = some m.cls := findClass_of_methodNamed B.named
  have hlocks := B.notSynchronized
  have w0 := hts (.fieldLink RMo 99 "DrumMachineModel" "time" "J") (List.mem_cons_of_mem _ wm4_199)
  have w1 := hts (.fieldLink RMo 105 "DrumMachineModel" "fault" "I") (List.mem_cons_of_mem _ wm4_198)
  have w2 := hts (.fieldLink RMo 108 "DrumMachineModel" "next" "I") (List.mem_cons_of_mem _ wm4_197)
  have w3 := hts (.fieldLink RMo 121 "DrumMachineModel" "overflow" "Z") (List.mem_cons_of_mem _ wm4_196)
  have w4 := hts (.fieldLink RMo 13 "DrumMachineModel" "minus" "[Z") (List.mem_cons_of_mem _ wm4_190)
  have w5 := hts (.constantLong RMo 166 (100000000)) (List.mem_cons_of_mem _ wm5_85)
  have w6 := hts (.constantLong RMo 164 (10000)) (List.mem_cons_of_mem _ wm5_86)
  have i0 : ∀ w ∈ u_ws RMo TMo 28, w ∈ wsMo_step := fun w h => List.mem_cons_of_mem _ (inAMo w h)
  have hS : va_S (m_qs q) s.heap s.heap [] := va_S.rf
  have hl := lv_entry ([.ref (q 0)]) (n := 10) (Nat.le_of_ble_eq_true rfl)
  rw [lg_entry_eq]
  generalize (lg_sl ([.ref (q 0)]) ++ List.replicate (10 - (lg_sl ([.ref (q 0)])).length) Slot.unset).toArray = ls at hl ⊢
  have hl : lv_has ls 10 [(0, .ref (q 0))] := hl
  have hB325 : ∀ (H : Heap) (locs : List Loc) (ls : Array Slot) (z : SM) (v4 : Int32) (v5 : Int32), fMo_step z0 = fMo_step_325 z v4 v5 → m_W D q cI cJ cZ z H → va_S (m_qs q) s.heap H locs → lv_has ls 10 [(0, .ref (q 0)), (4, .int (v4)), (5, .int (v5))] → W p l e (headSpec wsMo_step { frames := 4, cells := 0, slots := 0, locals := 101 }).room s m ([.ref (q 0)] : List Value).toArray below meth c H locs 0 0 (MQ below (cQw (some (.int (bb ((fMo_step z0).1)))) (m_W D q cI cJ cZ (fMo_step z0).2) (m_qs q)) ([.ref (q 0)] : List Value).toArray s 0 0 (m_qs q)) (F0 m 325 ls []) := by
    intro H locs ls z v4 v5 hR hP hS hl
    rw [fMo_step_325.eq_1] at hR
    refine lv_aload_n hx hb dMo_step_325 rfl (lv_at hl 0 rfl) ?_
    refine lv_dup hx hb dMo_step_326 rfl ?_
    refine mg0_time hx hb hts i0 hown hK hP w0 dMo_step_327 ?_
    refine lv_iload hx hb dMo_step_330 (lv_at hl 1 rfl) ?_
    refine lv_iload hx hb dMo_step_332 (lv_at hl 2 rfl) ?_
    refine cl_rd (W.runS (As := [.int (v4), .int (v5)]) (rest := [.long (m_time z), .ref (q 0)]) ⟨hx, hb, hml, hown, hts⟩ (kMo_fixed l v4 v5) (va_cwS 2 hts (gS wm5_107 wm5_108 wm1_9 wm5_109) rfl rfl rfl (by decide +kernel) ⟨Nat.le_of_ble_eq_true rfl, Nat.le_of_ble_eq_true rfl⟩) (preT) rfl rfl hl.1 rfl (lv_room (Nat.le_of_ble_eq_true rfl)) dMo_step_334 ⟨Nat.le_refl _, Nat.le_refl _⟩) ?_
    refine lv_i2l hx hb dMo_step_337 rfl ?_
    refine lv_ladd hx hb dMo_step_338 ?_
    refine mp0_time ((m_time z) + ((fMo_fixed v4 v5).toInt64)) hq hS hx hb hts i0 hown hK hP w0 dMo_step_339 (fun H locs hP hS => ?_)
    refine lv_iconst (v := 1) hx hb dMo_step_342 (by decide) ?_
    exact W.zret hx hb hr rfl (fun t ht _ => ⟨by rw [hR]; first | done | rfl, by rw [hR, ht]; exact hP, hS.F ht⟩) hS.2.2 dMo_step_343
  have hB309 : ∀ (H : Heap) (locs : List Loc) (ls : Array Slot) (z : SM) (v4 : Int32) (v5 : Int32), fMo_step z0 = fMo_step_309 z v4 v5 → m_W D q cI cJ cZ z H → va_S (m_qs q) s.heap H locs → lv_has ls 10 [(0, .ref (q 0)), (4, .int (v4)), (5, .int (v5))] → W p l e (headSpec wsMo_step { frames := 4, cells := 0, slots := 0, locals := 101 }).room s m ([.ref (q 0)] : List Value).toArray below meth c H locs 0 0 (MQ below (cQw (some (.int (bb ((fMo_step z0).1)))) (m_W D q cI cJ cZ (fMo_step z0).2) (m_qs q)) ([.ref (q 0)] : List Value).toArray s 0 0 (m_qs q)) (F0 m 309 ls []) := by
    intro H locs ls z v4 v5 hR hP hS hl
    rw [fMo_step_309.eq_1] at hR
    refine lv_iload hx hb dMo_step_309 (lv_at hl 1 rfl) ?_
    refine lv_bipush (v := 35) hx hb dMo_step_311 (by decide) ?_
    refine lv_icmp_ne hx hb dMo_step_313 rfl (fun h313 => ?_) (fun h313 => ?_)
    · have hR := hR.trans (if_neg h313)
      exact hB325 H locs ls z v4 v5 hR hP hS (lv_sub hl [0, 1, 2] rfl)
    · have hR := hR.trans (if_pos h313)
      refine lv_aload_n hx hb dMo_step_316 rfl (lv_at hl 0 rfl) ?_
      refine lv_iload hx hb dMo_step_317 (lv_at hl 2 rfl) ?_
      refine lv_bipush (v := 10) hx hb dMo_step_319 (by decide) ?_
      refine lm_irem hx hb dMo_step_321 (by decide) ?_
      refine cl_wr (W.runV (As := [.int ((v5 % 10))]) (rest := []) ⟨hx, hb, hml, hown, hts⟩ (kMo_shiftLeft l D q cI cJ cZ hq z (v5 % 10) (rem10 _)) (cwV 1 hts (gV wm5_143 wm5_145 ws3_12 wm1_9 wm5_146) rfl rfl rfl (by decide +kernel) ⟨Nat.le_of_ble_eq_true rfl, Nat.le_of_ble_eq_true rfl⟩) (m_preV0 hK hP) rfl rfl hl.1 rfl (lv_room (Nat.le_of_ble_eq_true rfl)) dMo_step_322 ⟨Nat.le_refl _, Nat.le_refl _⟩) hS (fun _ h => h) (fun _ h => h) (fun H locs hP hS => ?_)
      exact hB325 H locs ls (fMo_shiftLeft z (v5 % 10)) v4 v5 hR hP hS (lv_sub hl [0, 1, 2] rfl)
  have hB306 : ∀ (H : Heap) (locs : List Loc) (ls : Array Slot) (z : SM) (s1 : Int32) (s2 : Bool) (v4 : Int32) (v5 : Int32), fMo_step z0 = fMo_step_306 z s1 s2 v4 v5 → (s1.toInt ≤ (10 : Nat)) → m_W D q cI cJ cZ z H → va_S (m_qs q) s.heap H locs → lv_has ls 10 [(0, .ref (q 0)), (4, .int (v4)), (5, .int (v5))] → W p l e (headSpec wsMo_step { frames := 4, cells := 0, slots := 0, locals := 101 }).room s m ([.ref (q 0)] : List Value).toArray below meth c H locs 0 0 (MQ below (cQw (some (.int (bb ((fMo_step z0).1)))) (m_W D q cI cJ cZ (fMo_step z0).2) (m_qs q)) ([.ref (q 0)] : List Value).toArray s 0 0 (m_qs q)) (F0 m 306 ls [.int (bb (s2)), .int (s1), .ref (q 0)]) := by
    intro H locs ls z s1 s2 v4 v5 hR hs hP hS hl
    rw [fMo_step_306.eq_1] at hR
    refine cl_wr (W.runV (As := [.int (s1), .int (bb (s2))]) (rest := []) ⟨hx, hb, hml, hown, hts⟩ (kMo_shiftRight l D q cI cJ cZ hq z s1 s2 hs) (cwV 2 hts (gV wm5_139 wm5_141 ws3_11 wm1_9 wm5_142) rfl rfl rfl (by decide +kernel) ⟨Nat.le_of_ble_eq_true rfl, Nat.le_of_ble_eq_true rfl⟩) (m_preV0 hK hP) rfl rfl hl.1 rfl (lv_room (Nat.le_of_ble_eq_true rfl)) dMo_step_306 ⟨Nat.le_refl _, Nat.le_refl _⟩) hS (fun _ h => h) (fun _ h => h) (fun H locs hP hS => ?_)
    exact hB309 H locs ls (fMo_shiftRight z s1 s2) v4 v5 hR hP hS (lv_sub hl [0, 1, 2] rfl)
  have hB294 : ∀ (H : Heap) (locs : List Loc) (ls : Array Slot) (z : SM) (s1 : Int32) (v4 : Int32) (v5 : Int32), fMo_step z0 = fMo_step_294 z s1 v4 v5 → (s1.toInt ≤ (10 : Nat)) → m_W D q cI cJ cZ z H → va_S (m_qs q) s.heap H locs → lv_has ls 10 [(0, .ref (q 0)), (4, .int (v4)), (5, .int (v5))] → W p l e (headSpec wsMo_step { frames := 4, cells := 0, slots := 0, locals := 101 }).room s m ([.ref (q 0)] : List Value).toArray below meth c H locs 0 0 (MQ below (cQw (some (.int (bb ((fMo_step z0).1)))) (m_W D q cI cJ cZ (fMo_step z0).2) (m_qs q)) ([.ref (q 0)] : List Value).toArray s 0 0 (m_qs q)) (F0 m 294 ls [.int (s1), .ref (q 0)]) := by
    intro H locs ls z s1 v4 v5 hR hs hP hS hl
    rw [fMo_step_294.eq_1] at hR
    refine lv_iload hx hb dMo_step_294 (lv_at hl 1 rfl) ?_
    refine lv_bipush (v := 31) hx hb dMo_step_296 (by decide) ?_
    refine lv_icmp_ne hx hb dMo_step_298 rfl (fun h298 => ?_) (fun h298 => ?_)
    · have hR := hR.trans (if_neg h298)
      refine lv_iconst (v := 0) hx hb dMo_step_305 (by decide) ?_
      exact hB306 H locs ls z s1 false v4 v5 hR (by first | assumption | omega) hP hS (lv_sub hl [0, 1, 2] rfl)
    · have hR := hR.trans (if_pos h298)
      refine lv_iconst (v := 1) hx hb dMo_step_301 (by decide) ?_
      refine lv_goto hx hb dMo_step_302 rfl ?_
      exact hB306 H locs ls z s1 true v4 v5 hR (by first | assumption | omega) hP hS (lv_sub hl [0, 1, 2] rfl)
  have hB289 : ∀ (H : Heap) (locs : List Loc) (ls : Array Slot) (z : SM) (v4 : Int32) (v5 : Int32), fMo_step z0 = fMo_step_289 z v4 v5 → m_W D q cI cJ cZ z H → va_S (m_qs q) s.heap H locs → lv_has ls 10 [(0, .ref (q 0)), (4, .int (v4)), (5, .int (v5))] → W p l e (headSpec wsMo_step { frames := 4, cells := 0, slots := 0, locals := 101 }).room s m ([.ref (q 0)] : List Value).toArray below meth c H locs 0 0 (MQ below (cQw (some (.int (bb ((fMo_step z0).1)))) (m_W D q cI cJ cZ (fMo_step z0).2) (m_qs q)) ([.ref (q 0)] : List Value).toArray s 0 0 (m_qs q)) (F0 m 289 ls [.ref (q 0)]) := by
    intro H locs ls z v4 v5 hR hP hS hl
    rw [fMo_step_289.eq_1] at hR
    refine lv_iload hx hb dMo_step_289 (lv_at hl 2 rfl) ?_
    refine lv_bipush (v := 10) hx hb dMo_step_291 (by decide) ?_
    refine lm_irem hx hb dMo_step_293 (by decide) ?_
    exact hB294 H locs ls z (v5 % 10) v4 v5 hR (rem10 _) hP hS (lv_sub hl [0, 1, 2] rfl)
  have hB268 : ∀ (H : Heap) (locs : List Loc) (ls : Array Slot) (z : SM) (v4 : Int32) (v5 : Int32), fMo_step z0 = fMo_step_268 z v4 v5 → m_W D q cI cJ cZ z H → va_S (m_qs q) s.heap H locs → lv_has ls 10 [(0, .ref (q 0)), (4, .int (v4)), (5, .int (v5))] → W p l e (headSpec wsMo_step { frames := 4, cells := 0, slots := 0, locals := 101 }).room s m ([.ref (q 0)] : List Value).toArray below meth c H locs 0 0 (MQ below (cQw (some (.int (bb ((fMo_step z0).1)))) (m_W D q cI cJ cZ (fMo_step z0).2) (m_qs q)) ([.ref (q 0)] : List Value).toArray s 0 0 (m_qs q)) (F0 m 268 ls []) := by
    intro H locs ls z v4 v5 hR hP hS hl
    rw [fMo_step_268.eq_1] at hR
    refine lv_aload_n hx hb dMo_step_268 rfl (lv_at hl 0 rfl) ?_
    refine lv_iload hx hb dMo_step_269 (lv_at hl 1 rfl) ?_
    refine lv_bipush (v := 31) hx hb dMo_step_271 (by decide) ?_
    refine lv_icmp_ne hx hb dMo_step_273 rfl (fun h273 => ?_) (fun h273 => ?_)
    · have hR := hR.trans (if_neg h273)
      exact hB289 H locs ls z v4 v5 hR hP hS (lv_sub hl [0, 1, 2] rfl)
    · have hR := hR.trans (if_pos h273)
      refine lv_iload hx hb dMo_step_276 (lv_at hl 2 rfl) ?_
      refine lv_bipush (v := 10) hx hb dMo_step_278 (by decide) ?_
      refine lm_irem hx hb dMo_step_280 (by decide) ?_
      refine lv_if_ne hx hb dMo_step_281 rfl (fun h281 => ?_) (fun h281 => ?_)
      · have hR := hR.trans (if_neg h281)
        exact hB289 H locs ls z v4 v5 hR hP hS (lv_sub hl [0, 1, 2] rfl)
      · have hR := hR.trans (if_pos h281)
        refine lv_bipush (v := 10) hx hb dMo_step_284 (by decide) ?_
        refine lv_goto hx hb dMo_step_286 rfl ?_
        exact hB294 H locs ls z 10 v4 v5 hR (by decide) hP hS (lv_sub hl [0, 1, 2] rfl)
  have hB254 : ∀ (H : Heap) (locs : List Loc) (ls : Array Slot) (z : SM) (v4 : Int32) (v5 : Int32), fMo_step z0 = fMo_step_254 z v4 v5 → m_W D q cI cJ cZ z H → va_S (m_qs q) s.heap H locs → lv_has ls 10 [(0, .ref (q 0)), (4, .int (v4)), (5, .int (v5))] → W p l e (headSpec wsMo_step { frames := 4, cells := 0, slots := 0, locals := 101 }).room s m ([.ref (q 0)] : List Value).toArray below meth c H locs 0 0 (MQ below (cQw (some (.int (bb ((fMo_step z0).1)))) (m_W D q cI cJ cZ (fMo_step z0).2) (m_qs q)) ([.ref (q 0)] : List Value).toArray s 0 0 (m_qs q)) (F0 m 254 ls []) := by
    intro H locs ls z v4 v5 hR hP hS hl
    rw [fMo_step_254.eq_1] at hR
    refine lv_iload hx hb dMo_step_254 (lv_at hl 1 rfl) ?_
    refine lv_bipush (v := 30) hx hb dMo_step_256 (by decide) ?_
    refine lv_icmp_eq hx hb dMo_step_258 rfl (fun h258 => ?_) (fun h258 => ?_)
    · have hR := hR.trans (if_pos h258)
      exact hB268 H locs ls z v4 v5 hR hP hS (lv_sub hl [0, 1, 2] rfl)
    · have hR := hR.trans (if_neg h258)
      refine lv_iload hx hb dMo_step_261 (lv_at hl 1 rfl) ?_
      refine lv_bipush (v := 31) hx hb dMo_step_263 (by decide) ?_
      refine lv_icmp_ne hx hb dMo_step_265 rfl (fun h265 => ?_) (fun h265 => ?_)
      · have hR := hR.trans (if_neg h265)
        exact hB309 H locs ls z v4 v5 hR hP hS (lv_sub hl [0, 1, 2] rfl)
      · have hR := hR.trans (if_pos h265)
        exact hB268 H locs ls z v4 v5 hR hP hS (lv_sub hl [0, 1, 2] rfl)
  have hB243 : ∀ (H : Heap) (locs : List Loc) (ls : Array Slot) (z : SM) (v4 : Int32) (v5 : Int32), fMo_step z0 = fMo_step_243 z v4 v5 → m_W D q cI cJ cZ z H → va_S (m_qs q) s.heap H locs → lv_has ls 10 [(0, .ref (q 0)), (4, .int (v4)), (5, .int (v5))] → W p l e (headSpec wsMo_step { frames := 4, cells := 0, slots := 0, locals := 101 }).room s m ([.ref (q 0)] : List Value).toArray below meth c H locs 0 0 (MQ below (cQw (some (.int (bb ((fMo_step z0).1)))) (m_W D q cI cJ cZ (fMo_step z0).2) (m_qs q)) ([.ref (q 0)] : List Value).toArray s 0 0 (m_qs q)) (F0 m 243 ls []) := by
    intro H locs ls z v4 v5 hR hP hS hl
    rw [fMo_step_243.eq_1] at hR
    refine lv_iload hx hb dMo_step_243 (lv_at hl 1 rfl) ?_
    refine lv_iconst (v := 1) hx hb dMo_step_245 (by decide) ?_
    refine lv_icmp_ne hx hb dMo_step_246 rfl (fun h246 => ?_) (fun h246 => ?_)
    · have hR := hR.trans (if_neg h246)
      exact hB254 H locs ls z v4 v5 hR hP hS (lv_sub hl [0, 1, 2] rfl)
    · have hR := hR.trans (if_pos h246)
      refine lv_aload_n hx hb dMo_step_249 rfl (lv_at hl 0 rfl) ?_
      refine lv_iconst (v := 0) hx hb dMo_step_250 (by decide) ?_
      refine mp0_fault 0 hq hS hx hb hts i0 hown hK hP w1 dMo_step_251 (fun H locs hP hS => ?_)
      exact hB254 H locs ls (m_fault_s z 0) v4 v5 hR hP hS (lv_sub hl [0, 1, 2] rfl)
  have hB228 : ∀ (H : Heap) (locs : List Loc) (ls : Array Slot) (z : SM) (s1 : Int32) (v4 : Int32) (v5 : Int32), fMo_step z0 = fMo_step_228 z s1 v4 v5 → m_W D q cI cJ cZ z H → va_S (m_qs q) s.heap H locs → lv_has ls 10 [(0, .ref (q 0)), (4, .int (v4)), (5, .int (v5))] → W p l e (headSpec wsMo_step { frames := 4, cells := 0, slots := 0, locals := 101 }).room s m ([.ref (q 0)] : List Value).toArray below meth c H locs 0 0 (MQ below (cQw (some (.int (bb ((fMo_step z0).1)))) (m_W D q cI cJ cZ (fMo_step z0).2) (m_qs q)) ([.ref (q 0)] : List Value).toArray s 0 0 (m_qs q)) (F0 m 228 ls [.int (s1), .ref (q 0)]) := by
    intro H locs ls z s1 v4 v5 hR hP hS hl
    rw [fMo_step_228.eq_1] at hR
    refine mp0_next s1 hq hS hx hb hts i0 hown hK hP w2 dMo_step_228 (fun H locs hP hS => ?_)
    refine lv_iload hx hb dMo_step_231 (lv_at hl 1 rfl) ?_
    refine lv_bipush (v := 47) hx hb dMo_step_233 (by decide) ?_
    refine lv_icmp_ne hx hb dMo_step_235 rfl (fun h235 => ?_) (fun h235 => ?_)
    · have hR := hR.trans (if_neg h235)
      exact hB243 H locs ls (m_nxt_s z s1) v4 v5 hR hP hS (lv_sub hl [0, 1, 2] rfl)
    · have hR := hR.trans (if_pos h235)
      refine lv_aload_n hx hb dMo_step_238 rfl (lv_at hl 0 rfl) ?_
      refine lv_iconst (v := 0) hx hb dMo_step_239 (by decide) ?_
      refine mp0_overflow false hq hS hx hb hts i0 hown hK hP w3 dMo_step_240 (fun H locs hP hS => ?_)
      exact hB243 H locs ls (m_ovf_s (m_nxt_s z s1) false) v4 v5 hR hP hS (lv_sub hl [0, 1, 2] rfl)
  have hB215 : ∀ (H : Heap) (locs : List Loc) (ls : Array Slot) (z : SM) (v4 : Int32) (v5 : Int32) (v6 : Int32) (v7 : Bool), fMo_step z0 = fMo_step_215 z v4 v5 v6 v7 → m_W D q cI cJ cZ z H → va_S (m_qs q) s.heap H locs → lv_has ls 10 [(0, .ref (q 0)), (4, .int (v4)), (5, .int (v5)), (6, .int (v6)), (7, .int (bb (v7)))] → W p l e (headSpec wsMo_step { frames := 4, cells := 0, slots := 0, locals := 101 }).room s m ([.ref (q 0)] : List Value).toArray below meth c H locs 0 0 (MQ below (cQw (some (.int (bb ((fMo_step z0).1)))) (m_W D q cI cJ cZ (fMo_step z0).2) (m_qs q)) ([.ref (q 0)] : List Value).toArray s 0 0 (m_qs q)) (F0 m 215 ls []) := by
    intro H locs ls z v4 v5 v6 v7 hR hP hS hl
    rw [fMo_step_215.eq_1] at hR
    refine lv_aload_n hx hb dMo_step_215 rfl (lv_at hl 0 rfl) ?_
    refine lv_iload hx hb dMo_step_216 (lv_at hl 4 rfl) ?_
    refine wz_ifeq hx hb dMo_step_218 rfl (fun h218 => ?_) (fun h218 => ?_)
    · have hR := hR.trans (if_neg h218)
      refine lv_iload hx hb dMo_step_226 (lv_at hl 3 rfl) ?_
      exact hB228 H locs ls z v6 v4 v5 hR hP hS (lv_sub hl [0, 1, 2] rfl)
    · have hR := hR.trans (if_pos h218)
      refine lv_iload hx hb dMo_step_221 (lv_at hl 2 rfl) ?_
      refine lv_goto hx hb dMo_step_223 rfl ?_
      exact hB228 H locs ls z v5 v4 v5 hR hP hS (lv_sub hl [0, 1, 2] rfl)
  have hB193 : ∀ (H : Heap) (locs : List Loc) (ls : Array Slot) (z : SM) (v6 : Int32) (v9 : Bool), fMo_step z0 = fMo_step_193 z v6 v9 → m_W D q cI cJ cZ z H → va_S (m_qs q) s.heap H locs → lv_has ls 10 [(0, .ref (q 0)), (6, .int (v6)), (9, .int (bb (v9)))] → W p l e (headSpec wsMo_step { frames := 4, cells := 0, slots := 0, locals := 101 }).room s m ([.ref (q 0)] : List Value).toArray below meth c H locs 0 0 (MQ below (cQw (some (.int (bb ((fMo_step z0).1)))) (m_W D q cI cJ cZ (fMo_step z0).2) (m_qs q)) ([.ref (q 0)] : List Value).toArray s 0 0 (m_qs q)) (F0 m 193 ls []) := by
    intro H locs ls z v6 v9 hR hP hS hl
    rw [fMo_step_193.eq_1] at hR
    refine lv_iload hx hb dMo_step_193 (lv_at hl 2 rfl) ?_
    refine wz_ifeq hx hb dMo_step_195 rfl (fun h195 => ?_) (fun h195 => ?_)
    · have hR := hR.trans (if_neg h195)
      refine lv_iload hx hb dMo_step_204 (lv_at hl 2 rfl) ?_
      exact W.zret hx hb hr (nz_b _) (fun t ht _ => ⟨by rw [hR]; first | done | rfl, by rw [hR, ht]; exact hP, hS.F ht⟩) hS.2.2 dMo_step_206
    · have hR := hR.trans (if_pos h195)
      refine lv_aload_n hx hb dMo_step_198 rfl (lv_at hl 0 rfl) ?_
      refine lv_iload hx hb dMo_step_199 (lv_at hl 1 rfl) ?_
      refine mp0_next v6 hq hS hx hb hts i0 hown hK hP w2 dMo_step_201 (fun H locs hP hS => ?_)
      refine lv_iload hx hb dMo_step_204 (lv_at hl 2 rfl) ?_
      exact W.zret hx hb hr (nz_b _) (fun t ht _ => ⟨by rw [hR]; first | done | rfl, by rw [hR, ht]; exact hP, hS.F ht⟩) hS.2.2 dMo_step_206
  have hB191 : ∀ (H : Heap) (locs : List Loc) (ls : Array Slot) (z : SM) (s0 : Bool) (v6 : Int32), fMo_step z0 = fMo_step_191 z s0 v6 → m_W D q cI cJ cZ z H → va_S (m_qs q) s.heap H locs → lv_has ls 10 [(0, .ref (q 0)), (6, .int (v6))] → W p l e (headSpec wsMo_step { frames := 4, cells := 0, slots := 0, locals := 101 }).room s m ([.ref (q 0)] : List Value).toArray below meth c H locs 0 0 (MQ below (cQw (some (.int (bb ((fMo_step z0).1)))) (m_W D q cI cJ cZ (fMo_step z0).2) (m_qs q)) ([.ref (q 0)] : List Value).toArray s 0 0 (m_qs q)) (F0 m 191 ls [.int (bb (s0))]) := by
    intro H locs ls z s0 v6 hR hP hS hl
    rw [fMo_step_191.eq_1] at hR
    refine lv_istore (lv' := [(9, .int (bb (s0))), (0, .ref (q 0)), (6, .int (v6))]) hx hb dMo_step_191 hl (by decide) rfl (fun ls hl => ?_)
    exact hB193 H locs ls z v6 s0 hR hP hS (lv_sub hl [1, 2, 0] rfl)
  have hB153 : ∀ (H : Heap) (locs : List Loc) (ls : Array Slot) (z : SM) (v1 : Int32) (v4 : Int32) (v5 : Int32) (v6 : Int32) (v7 : Int64), fMo_step z0 = fMo_step_153 z v1 v4 v5 v6 v7 → (m_J z) → (vp_in v5 200) → m_W D q cI cJ cZ z H → va_S (m_qs q) s.heap H locs → lv_has ls 10 [(0, .ref (q 0)), (1, .int (v1)), (4, .int (v4)), (5, .int (v5)), (6, .int (v6)), (7, .long (v7))] → W p l e (headSpec wsMo_step { frames := 4, cells := 0, slots := 0, locals := 101 }).room s m ([.ref (q 0)] : List Value).toArray below meth c H locs 0 0 (MQ below (cQw (some (.int (bb ((fMo_step z0).1)))) (m_W D q cI cJ cZ (fMo_step z0).2) (m_qs q)) ([.ref (q 0)] : List Value).toArray s 0 0 (m_qs q)) (F0 m 153 ls []) := by
    intro H locs ls z v1 v4 v5 v6 v7 hR hJ h5 hP hS hl
    rw [fMo_step_153.eq_1] at hR
    refine lv_iload hx hb dMo_step_153 (lv_at hl 2 rfl) ?_
    refine cl_rd (W.runS (As := [.int (v4)]) (rest := []) ⟨hx, hb, hml, hown, hts⟩ (kMo_reads l v4) (va_cwS 1 hts (gS wm5_90 wm5_91 wm1_9 wm5_92) rfl rfl rfl (by decide +kernel) ⟨Nat.le_of_ble_eq_true rfl, Nat.le_of_ble_eq_true rfl⟩) (preT) rfl rfl hl.1 rfl (lv_room (Nat.le_of_ble_eq_true rfl)) dMo_step_155 ⟨Nat.le_refl _, Nat.le_refl _⟩) ?_
    refine wz_ifeq hx hb dMo_step_158 rfl (fun h158 => ?_) (fun h158 => ?_)
    · have hR := hR.trans (if_neg h158)
      refine lv_aload_n hx hb dMo_step_182 rfl (lv_at hl 0 rfl) ?_
      refine lv_iload hx hb dMo_step_183 (lv_at hl 2 rfl) ?_
      refine lv_iload hx hb dMo_step_185 (lv_at hl 3 rfl) ?_
      refine lv_iload_n hx hb dMo_step_187 rfl (lv_at hl 1 rfl) ?_
      refine cl_wr (W.runV (As := [.int (v4), .int (v5), .int (v1)]) (rest := []) ⟨hx, hb, hml, hown, hts⟩ (kMo_doWrite l D q cI cJ cZ hq z v4 v5 v1 h5 hJ.1) (cwV 3 hts (gV wm5_130 wm5_132 ws3_9 wm1_9 wm5_133) rfl rfl rfl (by decide +kernel) ⟨Nat.le_of_ble_eq_true rfl, Nat.le_of_ble_eq_true rfl⟩) (m_preV0 hK hP) rfl rfl hl.1 rfl (lv_room (Nat.le_of_ble_eq_true rfl)) dMo_step_188 ⟨Nat.le_refl _, Nat.le_refl _⟩) hS (fun _ h => h) (fun _ h => h) (fun H locs hP hS => ?_)
      exact hB191 H locs ls ((fMo_doWrite z v4 v5 v1).2) ((fMo_doWrite z v4 v5 v1).1) v6 hR hP hS (lv_sub hl [0, 4] rfl)
    · have hR := hR.trans (if_pos h158)
      refine lv_aload_n hx hb dMo_step_161 rfl (lv_at hl 0 rfl) ?_
      refine lv_iload hx hb dMo_step_162 (lv_at hl 2 rfl) ?_
      refine lv_iload hx hb dMo_step_164 (lv_at hl 3 rfl) ?_
      refine lv_lload hx hb dMo_step_166 (lv_at hl 5 rfl) ?_
      refine lv_aload_n hx hb dMo_step_168 rfl (lv_at hl 0 rfl) ?_
      refine mg0_minus hx hb hts i0 hown hK hP w4 dMo_step_169 ?_
      refine lv_iload hx hb dMo_step_172 (lv_at hl 3 rfl) ?_
      refine ml_dmin hx hb hK hP h5 dMo_step_174 ?_
      refine lv_iload_n hx hb dMo_step_175 rfl (lv_at hl 1 rfl) ?_
      refine cl_wr (W.runV (As := [.int (v4), .int (v5), .long (v7), .int (bb ((m_dmin z v5.toNatClampNeg))), .int (v1)]) (rest := []) ⟨hx, hb, hml, hown, hts⟩ (kMo_doRead l D q cI cJ cZ hq z v4 v5 v7 (m_dmin z v5.toNatClampNeg) v1 h5 hJ.2.1 hJ.2.2) (cwV 5 hts (gV wm5_99 wm5_101 ws3_3 wm1_9 wm5_102) rfl rfl rfl (by decide +kernel) ⟨Nat.le_of_ble_eq_true rfl, Nat.le_of_ble_eq_true rfl⟩) (m_preV0 hK hP) rfl rfl hl.1 rfl (lv_room (Nat.le_of_ble_eq_true rfl)) dMo_step_176 ⟨Nat.le_refl _, Nat.le_refl _⟩) hS (fun _ h => h) (fun _ h => h) (fun H locs hP hS => ?_)
      refine lv_goto hx hb dMo_step_179 rfl ?_
      exact hB191 H locs ls ((fMo_doRead z v4 v5 v7 (m_dmin z v5.toNatClampNeg) v1).2) ((fMo_doRead z v4 v5 v7 (m_dmin z v5.toNatClampNeg) v1).1) v6 hR hP hS (lv_sub hl [0, 4] rfl)
  have hB131 : ∀ (H : Heap) (locs : List Loc) (ls : Array Slot) (z : SM) (v1 : Int32) (v4 : Int32) (v5 : Int32) (v6 : Int32) (v7 : Int64), fMo_step z0 = fMo_step_131 z v1 v4 v5 v6 v7 → (m_J z) → (vp_in v5 200) → m_W D q cI cJ cZ z H → va_S (m_qs q) s.heap H locs → lv_has ls 10 [(0, .ref (q 0)), (1, .int (v1)), (4, .int (v4)), (5, .int (v5)), (6, .int (v6)), (7, .long (v7))] → W p l e (headSpec wsMo_step { frames := 4, cells := 0, slots := 0, locals := 101 }).room s m ([.ref (q 0)] : List Value).toArray below meth c H locs 0 0 (MQ below (cQw (some (.int (bb ((fMo_step z0).1)))) (m_W D q cI cJ cZ (fMo_step z0).2) (m_qs q)) ([.ref (q 0)] : List Value).toArray s 0 0 (m_qs q)) (F0 m 131 ls []) := by
    intro H locs ls z v1 v4 v5 v6 v7 hR hJ h5 hP hS hl
    rw [fMo_step_131.eq_1] at hR
    refine lv_iload hx hb dMo_step_131 (lv_at hl 2 rfl) ?_
    refine cl_rd (W.runS (As := [.int (v4)]) (rest := []) ⟨hx, hb, hml, hown, hts⟩ (kMo_reads l v4) (va_cwS 1 hts (gS wm5_90 wm5_91 wm1_9 wm5_92) rfl rfl rfl (by decide +kernel) ⟨Nat.le_of_ble_eq_true rfl, Nat.le_of_ble_eq_true rfl⟩) (preT) rfl rfl hl.1 rfl (lv_room (Nat.le_of_ble_eq_true rfl)) dMo_step_133 ⟨Nat.le_refl _, Nat.le_refl _⟩) ?_
    refine wz_ifeq hx hb dMo_step_136 rfl (fun h136 => ?_) (fun h136 => ?_)
    · have hR := hR.trans (if_neg h136)
      exact hB153 H locs ls z v1 v4 v5 v6 v7 hR (by first | assumption | omega) (by first | assumption | omega) hP hS (lv_sub hl [0, 1, 2, 3, 4, 5] rfl)
    · have hR := hR.trans (if_pos h136)
      refine lv_lload hx hb dMo_step_139 (lv_at hl 5 rfl) ?_
      refine lv_lconst (v := 0) hx hb dMo_step_141 (by decide) ?_
      refine lc_ge hx hb dMo_step_142 dMo_step_143 rfl (fun h142 => ?_) (fun h142 => ?_)
      · have hR := hR.trans (if_pos h142)
        exact hB153 H locs ls z v1 v4 v5 v6 v7 hR (by first | assumption | omega) (by first | assumption | omega) hP hS (lv_sub hl [0, 1, 2, 3, 4, 5] rfl)
      · have hR := hR.trans (if_neg h142)
        refine lv_aload_n hx hb dMo_step_146 rfl (lv_at hl 0 rfl) ?_
        refine lv_iconst (v := 1) hx hb dMo_step_147 (by decide) ?_
        refine lv_iload_n hx hb dMo_step_148 rfl (lv_at hl 1 rfl) ?_
        refine cl_wr (W.runV (As := [.int (1), .int (v1)]) (rest := []) ⟨hx, hb, hml, hown, hts⟩ (kMo_stop l D q cI cJ cZ hq z 1 v1) (cwV 2 hts (gV wm5_76 wm5_78 ws3_1 wm1_9 wm5_79) rfl rfl rfl (by decide +kernel) ⟨Nat.le_of_ble_eq_true rfl, Nat.le_of_ble_eq_true rfl⟩) (m_preV0 hK hP) rfl rfl hl.1 rfl (lv_room (Nat.le_of_ble_eq_true rfl)) dMo_step_149 ⟨Nat.le_refl _, Nat.le_refl _⟩) hS (fun _ h => h) (fun _ h => h) (fun H locs hP hS => ?_)
        exact W.zret hx hb hr (nz_b _) (fun t ht _ => ⟨by rw [hR]; first | done | rfl, by rw [hR, ht]; exact hP, hS.F ht⟩) hS.2.2 dMo_step_152
  have hB102 : ∀ (H : Heap) (locs : List Loc) (ls : Array Slot) (z : SM) (v1 : Int32) (v4 : Int32) (v5 : Int32) (v6 : Int32), fMo_step z0 = fMo_step_102 z v1 v4 v5 v6 → (m_J z) → m_W D q cI cJ cZ z H → va_S (m_qs q) s.heap H locs → lv_has ls 10 [(0, .ref (q 0)), (1, .int (v1)), (4, .int (v4)), (5, .int (v5)), (6, .int (v6))] → W p l e (headSpec wsMo_step { frames := 4, cells := 0, slots := 0, locals := 101 }).room s m ([.ref (q 0)] : List Value).toArray below meth c H locs 0 0 (MQ below (cQw (some (.int (bb ((fMo_step z0).1)))) (m_W D q cI cJ cZ (fMo_step z0).2) (m_qs q)) ([.ref (q 0)] : List Value).toArray s 0 0 (m_qs q)) (F0 m 102 ls []) := by
    intro H locs ls z v1 v4 v5 v6 hR hJ hP hS hl
    rw [fMo_step_102.eq_1] at hR
    refine lv_iload hx hb dMo_step_102 (lv_at hl 3 rfl) ?_
    refine cl_rd (W.runS (As := [.int (v5)]) (rest := []) ⟨hx, hb, hml, hown, hts⟩ (kMo_isAddress l v5) (va_cwS 1 hts (gS wm5_41 wm5_42 wm1_9 wm5_43) rfl rfl rfl (by decide +kernel) ⟨Nat.le_of_ble_eq_true rfl, Nat.le_of_ble_eq_true rfl⟩) (preT) rfl rfl hl.1 rfl (lv_room (Nat.le_of_ble_eq_true rfl)) dMo_step_104 ⟨Nat.le_refl _, Nat.le_refl _⟩) ?_
    refine wz_ifne hx hb dMo_step_107 rfl (fun h107 => ?_) (fun h107 => ?_)
    · have hR := hR.trans (if_pos h107)
      refine lv_aload_n hx hb dMo_step_117 rfl (lv_at hl 0 rfl) ?_
      refine lv_iload hx hb dMo_step_118 (lv_at hl 3 rfl) ?_
      refine cl_wr (W.runV (As := [.int (v5)]) (rest := []) ⟨hx, hb, hml, hown, hts⟩ (kMo_access l D q cI cJ cZ hq z v5) (cwV 1 hts (gV wm5_80 wm5_82 ws3_2 wm1_9 wm5_83) rfl rfl rfl (by decide +kernel) ⟨Nat.le_of_ble_eq_true rfl, Nat.le_of_ble_eq_true rfl⟩) (m_preV0 hK hP) rfl rfl hl.1 rfl (lv_room (Nat.le_of_ble_eq_true rfl)) dMo_step_120 ⟨Nat.le_refl _, Nat.le_refl _⟩) hS (fun _ h => h) (fun _ h => h) (fun H locs hP hS => ?_)
      refine lv_aload_n hx hb dMo_step_123 rfl (lv_at hl 0 rfl) ?_
      refine lv_iload hx hb dMo_step_124 (lv_at hl 3 rfl) ?_
      refine cl_rd (W.runV (As := [.int (v5)]) (rest := []) ⟨hx, hb, hml, hown, hts⟩ (kMo_value l D q cI cJ cZ hq (fMo_access z v5) v5 (mha h107)) (cwV 1 hts (gV wm5_52 wm5_54 ws2_15 wm1_9 wm5_55) rfl rfl rfl (by decide +kernel) ⟨Nat.le_of_ble_eq_true rfl, Nat.le_of_ble_eq_true rfl⟩) (m_preV0 hK hP) rfl rfl hl.1 rfl (lv_room (Nat.le_of_ble_eq_true rfl)) dMo_step_126 ⟨Nat.le_refl _, Nat.le_refl _⟩) ?_
      refine lv_lstore (lv' := [(7, .long (fMo_value (fMo_access z v5) v5)), (0, .ref (q 0)), (1, .int (v1)), (4, .int (v4)), (5, .int (v5)), (6, .int (v6))]) hx hb dMo_step_129 hl (by decide) rfl (fun ls hl => ?_)
      exact hB131 H locs ls (fMo_access z v5) v1 v4 v5 v6 (fMo_value (fMo_access z v5) v5) hR (by first | assumption | omega) (mha h107) hP hS (lv_sub hl [1, 2, 3, 4, 5, 0] rfl)
    · have hR := hR.trans (if_neg h107)
      refine lv_aload_n hx hb dMo_step_110 rfl (lv_at hl 0 rfl) ?_
      refine lv_iconst (v := 2) hx hb dMo_step_111 (by decide) ?_
      refine lv_iload_n hx hb dMo_step_112 rfl (lv_at hl 1 rfl) ?_
      refine cl_wr (W.runV (As := [.int (2), .int (v1)]) (rest := []) ⟨hx, hb, hml, hown, hts⟩ (kMo_stop l D q cI cJ cZ hq z 2 v1) (cwV 2 hts (gV wm5_76 wm5_78 ws3_1 wm1_9 wm5_79) rfl rfl rfl (by decide +kernel) ⟨Nat.le_of_ble_eq_true rfl, Nat.le_of_ble_eq_true rfl⟩) (m_preV0 hK hP) rfl rfl hl.1 rfl (lv_room (Nat.le_of_ble_eq_true rfl)) dMo_step_113 ⟨Nat.le_refl _, Nat.le_refl _⟩) hS (fun _ h => h) (fun _ h => h) (fun H locs hP hS => ?_)
      exact W.zret hx hb hr (nz_b _) (fun t ht _ => ⟨by rw [hR]; first | done | rfl, by rw [hR, ht]; exact hP, hS.F ht⟩) hS.2.2 dMo_step_116
  have hB71 : ∀ (H : Heap) (locs : List Loc) (ls : Array Slot) (z : SM) (v1 : Int32) (v4 : Int32) (v5 : Int32) (v6 : Int32), fMo_step z0 = fMo_step_71 z v1 v4 v5 v6 → (m_J z) → m_W D q cI cJ cZ z H → va_S (m_qs q) s.heap H locs → lv_has ls 10 [(0, .ref (q 0)), (1, .int (v1)), (4, .int (v4)), (5, .int (v5)), (6, .int (v6))] → W p l e (headSpec wsMo_step { frames := 4, cells := 0, slots := 0, locals := 101 }).room s m ([.ref (q 0)] : List Value).toArray below meth c H locs 0 0 (MQ below (cQw (some (.int (bb ((fMo_step z0).1)))) (m_W D q cI cJ cZ (fMo_step z0).2) (m_qs q)) ([.ref (q 0)] : List Value).toArray s 0 0 (m_qs q)) (F0 m 71 ls []) := by
    intro H locs ls z v1 v4 v5 v6 hR hJ hP hS hl
    rw [fMo_step_71.eq_1] at hR
    refine lv_iload hx hb dMo_step_71 (lv_at hl 2 rfl) ?_
    refine cl_rd (W.runS (As := [.int (v4)]) (rest := []) ⟨hx, hb, hml, hown, hts⟩ (kMo_isOperation l v4) (va_cwS 1 hts (gS wm5_87 wm5_88 wm1_9 wm5_89) rfl rfl rfl (by decide +kernel) ⟨Nat.le_of_ble_eq_true rfl, Nat.le_of_ble_eq_true rfl⟩) (preT) rfl rfl hl.1 rfl (lv_room (Nat.le_of_ble_eq_true rfl)) dMo_step_73 ⟨Nat.le_refl _, Nat.le_refl _⟩) ?_
    refine wz_ifne hx hb dMo_step_76 rfl (fun h76 => ?_) (fun h76 => ?_)
    · have hR := hR.trans (if_pos h76)
      refine lv_iload hx hb dMo_step_86 (lv_at hl 2 rfl) ?_
      refine cl_rd (W.runS (As := [.int (v4)]) (rest := []) ⟨hx, hb, hml, hown, hts⟩ (kMo_reads l v4) (va_cwS 1 hts (gS wm5_90 wm5_91 wm1_9 wm5_92) rfl rfl rfl (by decide +kernel) ⟨Nat.le_of_ble_eq_true rfl, Nat.le_of_ble_eq_true rfl⟩) (preT) rfl rfl hl.1 rfl (lv_room (Nat.le_of_ble_eq_true rfl)) dMo_step_88 ⟨Nat.le_refl _, Nat.le_refl _⟩) ?_
      refine wz_ifne hx hb dMo_step_91 rfl (fun h91 => ?_) (fun h91 => ?_)
      · have hR := hR.trans (if_pos h91)
        exact hB102 H locs ls z v1 v4 v5 v6 hR (by first | assumption | omega) hP hS (lv_sub hl [0, 1, 2, 3, 4] rfl)
      · have hR := hR.trans (if_neg h91)
        refine lv_iload hx hb dMo_step_94 (lv_at hl 2 rfl) ?_
        refine cl_rd (W.runS (As := [.int (v4)]) (rest := []) ⟨hx, hb, hml, hown, hts⟩ (kMo_writes l v4) (va_cwS 1 hts (gS wm5_93 wm5_94 wm1_9 wm5_95) rfl rfl rfl (by decide +kernel) ⟨Nat.le_of_ble_eq_true rfl, Nat.le_of_ble_eq_true rfl⟩) (preT) rfl rfl hl.1 rfl (lv_room (Nat.le_of_ble_eq_true rfl)) dMo_step_96 ⟨Nat.le_refl _, Nat.le_refl _⟩) ?_
        refine wz_ifeq hx hb dMo_step_99 rfl (fun h99 => ?_) (fun h99 => ?_)
        · have hR := hR.trans (if_neg h99)
          refine lv_aload_n hx hb dMo_step_207 rfl (lv_at hl 0 rfl) ?_
          refine lv_iload hx hb dMo_step_208 (lv_at hl 2 rfl) ?_
          refine cl_rd (W.runV (As := [.int (v4)]) (rest := []) ⟨hx, hb, hml, hown, hts⟩ (kMo_branches l D q cI cJ cZ hq z v4 (op99 h76)) (cwV 1 hts (gV wm5_134 wm5_136 ws3_10 wm1_9 wm5_137) rfl rfl rfl (by decide +kernel) ⟨Nat.le_of_ble_eq_true rfl, Nat.le_of_ble_eq_true rfl⟩) (m_preV0 hK hP) rfl rfl hl.1 rfl (lv_room (Nat.le_of_ble_eq_true rfl)) dMo_step_210 ⟨Nat.le_refl _, Nat.le_refl _⟩) ?_
          refine lv_istore (lv' := [(7, .int (bb (fMo_branches z v4))), (0, .ref (q 0)), (1, .int (v1)), (4, .int (v4)), (5, .int (v5)), (6, .int (v6))]) hx hb dMo_step_213 hl (by decide) rfl (fun ls hl => ?_)
          exact hB215 H locs ls z v4 v5 v6 (fMo_branches z v4) hR hP hS (lv_sub hl [1, 3, 4, 5, 0] rfl)
        · have hR := hR.trans (if_pos h99)
          exact hB102 H locs ls z v1 v4 v5 v6 hR (by first | assumption | omega) hP hS (lv_sub hl [0, 1, 2, 3, 4] rfl)
    · have hR := hR.trans (if_neg h76)
      refine lv_aload_n hx hb dMo_step_79 rfl (lv_at hl 0 rfl) ?_
      refine lv_iconst (v := 2) hx hb dMo_step_80 (by decide) ?_
      refine lv_iload_n hx hb dMo_step_81 rfl (lv_at hl 1 rfl) ?_
      refine cl_wr (W.runV (As := [.int (2), .int (v1)]) (rest := []) ⟨hx, hb, hml, hown, hts⟩ (kMo_stop l D q cI cJ cZ hq z 2 v1) (cwV 2 hts (gV wm5_76 wm5_78 ws3_1 wm1_9 wm5_79) rfl rfl rfl (by decide +kernel) ⟨Nat.le_of_ble_eq_true rfl, Nat.le_of_ble_eq_true rfl⟩) (m_preV0 hK hP) rfl rfl hl.1 rfl (lv_room (Nat.le_of_ble_eq_true rfl)) dMo_step_82 ⟨Nat.le_refl _, Nat.le_refl _⟩) hS (fun _ h => h) (fun _ h => h) (fun H locs hP hS => ?_)
      exact W.zret hx hb hr (nz_b _) (fun t ht _ => ⟨by rw [hR]; first | done | rfl, by rw [hR, ht]; exact hP, hS.F ht⟩) hS.2.2 dMo_step_85
  have hB30 : ∀ (H : Heap) (locs : List Loc) (ls : Array Slot) (z : SM) (v1 : Int32) (v2 : Int64), fMo_step z0 = fMo_step_30 z v1 v2 → (m_J z) → m_W D q cI cJ cZ z H → va_S (m_qs q) s.heap H locs → lv_has ls 10 [(0, .ref (q 0)), (1, .int (v1)), (2, .long (v2))] → W p l e (headSpec wsMo_step { frames := 4, cells := 0, slots := 0, locals := 101 }).room s m ([.ref (q 0)] : List Value).toArray below meth c H locs 0 0 (MQ below (cQw (some (.int (bb ((fMo_step z0).1)))) (m_W D q cI cJ cZ (fMo_step z0).2) (m_qs q)) ([.ref (q 0)] : List Value).toArray s 0 0 (m_qs q)) (F0 m 30 ls []) := by
    intro H locs ls z v1 v2 hR hJ hP hS hl
    rw [fMo_step_30.eq_1] at hR
    refine lv_lload_n hx hb dMo_step_30 rfl (lv_at hl 2 rfl) ?_
    refine lv_lconst (v := 0) hx hb dMo_step_31 (by decide) ?_
    refine lc_ge hx hb dMo_step_32 dMo_step_33 rfl (fun h32 => ?_) (fun h32 => ?_)
    · have hR := hR.trans (if_pos h32)
      refine lv_lload_n hx hb dMo_step_43 rfl (lv_at hl 2 rfl) ?_
      refine lv_ldc2 (v := 100000000) hx hb hown w5 dMo_step_44 ?_
      refine lv_ldiv hx hb dMo_step_47 (by decide) ?_
      refine lv_l2i hx hb dMo_step_48 rfl ?_
      refine lv_istore (lv' := [(4, .int ((v2 / 100000000).toInt32)), (0, .ref (q 0)), (1, .int (v1)), (2, .long (v2))]) hx hb dMo_step_49 hl (by decide) rfl (fun ls hl => ?_)
      refine lv_lload_n hx hb dMo_step_51 rfl (lv_at hl 3 rfl) ?_
      refine lv_ldc2 (v := 10000) hx hb hown w6 dMo_step_52 ?_
      refine lv_ldiv hx hb dMo_step_55 (by decide) ?_
      refine lv_ldc2 (v := 10000) hx hb hown w6 dMo_step_56 ?_
      refine lm_lrem hx hb dMo_step_59 (by decide) ?_
      refine lv_l2i hx hb dMo_step_60 rfl ?_
      refine lv_istore (lv' := [(5, .int (((v2 / 10000) % 10000).toInt32)), (4, .int ((v2 / 100000000).toInt32)), (0, .ref (q 0)), (1, .int (v1)), (2, .long (v2))]) hx hb dMo_step_61 hl (by decide) rfl (fun ls hl => ?_)
      refine lv_lload_n hx hb dMo_step_63 rfl (lv_at hl 4 rfl) ?_
      refine lv_ldc2 (v := 10000) hx hb hown w6 dMo_step_64 ?_
      refine lm_lrem hx hb dMo_step_67 (by decide) ?_
      refine lv_l2i hx hb dMo_step_68 rfl ?_
      refine lv_istore (lv' := [(6, .int ((v2 % 10000).toInt32)), (5, .int (((v2 / 10000) % 10000).toInt32)), (4, .int ((v2 / 100000000).toInt32)), (0, .ref (q 0)), (1, .int (v1)), (2, .long (v2))]) hx hb dMo_step_69 hl (by decide) rfl (fun ls hl => ?_)
      exact hB71 H locs ls z v1 ((v2 / 100000000).toInt32) (((v2 / 10000) % 10000).toInt32) ((v2 % 10000).toInt32) hR (by first | assumption | omega) hP hS (lv_sub hl [3, 4, 2, 1, 0] rfl)
    · have hR := hR.trans (if_neg h32)
      refine lv_aload_n hx hb dMo_step_36 rfl (lv_at hl 0 rfl) ?_
      refine lv_iconst (v := 1) hx hb dMo_step_37 (by decide) ?_
      refine lv_iload_n hx hb dMo_step_38 rfl (lv_at hl 1 rfl) ?_
      refine cl_wr (W.runV (As := [.int (1), .int (v1)]) (rest := []) ⟨hx, hb, hml, hown, hts⟩ (kMo_stop l D q cI cJ cZ hq z 1 v1) (cwV 2 hts (gV wm5_76 wm5_78 ws3_1 wm1_9 wm5_79) rfl rfl rfl (by decide +kernel) ⟨Nat.le_of_ble_eq_true rfl, Nat.le_of_ble_eq_true rfl⟩) (m_preV0 hK hP) rfl rfl hl.1 rfl (lv_room (Nat.le_of_ble_eq_true rfl)) dMo_step_39 ⟨Nat.le_refl _, Nat.le_refl _⟩) hS (fun _ h => h) (fun _ h => h) (fun H locs hP hS => ?_)
      exact W.zret hx hb hr (nz_b _) (fun t ht _ => ⟨by rw [hR]; first | done | rfl, by rw [hR, ht]; exact hP, hS.F ht⟩) hS.2.2 dMo_step_42
  have hB5 : ∀ (H : Heap) (locs : List Loc) (ls : Array Slot) (z : SM) (v1 : Int32), fMo_step z0 = fMo_step_5 z v1 → (m_J z) → m_W D q cI cJ cZ z H → va_S (m_qs q) s.heap H locs → lv_has ls 10 [(0, .ref (q 0)), (1, .int (v1))] → W p l e (headSpec wsMo_step { frames := 4, cells := 0, slots := 0, locals := 101 }).room s m ([.ref (q 0)] : List Value).toArray below meth c H locs 0 0 (MQ below (cQw (some (.int (bb ((fMo_step z0).1)))) (m_W D q cI cJ cZ (fMo_step z0).2) (m_qs q)) ([.ref (q 0)] : List Value).toArray s 0 0 (m_qs q)) (F0 m 5 ls []) := by
    intro H locs ls z v1 hR hJ hP hS hl
    rw [fMo_step_5.eq_1] at hR
    refine lv_iload_n hx hb dMo_step_5 rfl (lv_at hl 1 rfl) ?_
    refine cl_rd (W.runS (As := [.int (v1)]) (rest := []) ⟨hx, hb, hml, hown, hts⟩ (kMo_isAddress l v1) (va_cwS 1 hts (gS wm5_41 wm5_42 wm1_9 wm5_43) rfl rfl rfl (by decide +kernel) ⟨Nat.le_of_ble_eq_true rfl, Nat.le_of_ble_eq_true rfl⟩) (preT) rfl rfl hl.1 rfl (lv_room (Nat.le_of_ble_eq_true rfl)) dMo_step_6 ⟨Nat.le_refl _, Nat.le_refl _⟩) ?_
    refine wz_ifne hx hb dMo_step_9 rfl (fun h9 => ?_) (fun h9 => ?_)
    · have hR := hR.trans (if_pos h9)
      refine lv_aload_n hx hb dMo_step_19 rfl (lv_at hl 0 rfl) ?_
      refine lv_iload_n hx hb dMo_step_20 rfl (lv_at hl 1 rfl) ?_
      refine cl_wr (W.runV (As := [.int (v1)]) (rest := []) ⟨hx, hb, hml, hown, hts⟩ (kMo_access l D q cI cJ cZ hq z v1) (cwV 1 hts (gV wm5_80 wm5_82 ws3_2 wm1_9 wm5_83) rfl rfl rfl (by decide +kernel) ⟨Nat.le_of_ble_eq_true rfl, Nat.le_of_ble_eq_true rfl⟩) (m_preV0 hK hP) rfl rfl hl.1 rfl (lv_room (Nat.le_of_ble_eq_true rfl)) dMo_step_21 ⟨Nat.le_refl _, Nat.le_refl _⟩) hS (fun _ h => h) (fun _ h => h) (fun H locs hP hS => ?_)
      refine lv_aload_n hx hb dMo_step_24 rfl (lv_at hl 0 rfl) ?_
      refine lv_iload_n hx hb dMo_step_25 rfl (lv_at hl 1 rfl) ?_
      refine cl_rd (W.runV (As := [.int (v1)]) (rest := []) ⟨hx, hb, hml, hown, hts⟩ (kMo_value l D q cI cJ cZ hq (fMo_access z v1) v1 (mha h9)) (cwV 1 hts (gV wm5_52 wm5_54 ws2_15 wm1_9 wm5_55) rfl rfl rfl (by decide +kernel) ⟨Nat.le_of_ble_eq_true rfl, Nat.le_of_ble_eq_true rfl⟩) (m_preV0 hK hP) rfl rfl hl.1 rfl (lv_room (Nat.le_of_ble_eq_true rfl)) dMo_step_26 ⟨Nat.le_refl _, Nat.le_refl _⟩) ?_
      refine lv_lstore_n (lv' := [(2, .long (fMo_value (fMo_access z v1) v1)), (0, .ref (q 0)), (1, .int (v1))]) hx hb dMo_step_29 rfl hl (by decide) rfl (fun ls hl => ?_)
      exact hB30 H locs ls (fMo_access z v1) v1 (fMo_value (fMo_access z v1) v1) hR (by first | exact hJ) hP hS (lv_sub hl [1, 2, 0] rfl)
    · have hR := hR.trans (if_neg h9)
      refine lv_aload_n hx hb dMo_step_12 rfl (lv_at hl 0 rfl) ?_
      refine lv_iconst (v := 2) hx hb dMo_step_13 (by decide) ?_
      refine lv_iload_n hx hb dMo_step_14 rfl (lv_at hl 1 rfl) ?_
      refine cl_wr (W.runV (As := [.int (2), .int (v1)]) (rest := []) ⟨hx, hb, hml, hown, hts⟩ (kMo_stop l D q cI cJ cZ hq z 2 v1) (cwV 2 hts (gV wm5_76 wm5_78 ws3_1 wm1_9 wm5_79) rfl rfl rfl (by decide +kernel) ⟨Nat.le_of_ble_eq_true rfl, Nat.le_of_ble_eq_true rfl⟩) (m_preV0 hK hP) rfl rfl hl.1 rfl (lv_room (Nat.le_of_ble_eq_true rfl)) dMo_step_15 ⟨Nat.le_refl _, Nat.le_refl _⟩) hS (fun _ h => h) (fun _ h => h) (fun H locs hP hS => ?_)
      exact W.zret hx hb hr (nz_b _) (fun t ht _ => ⟨by rw [hR]; first | done | rfl, by rw [hR, ht]; exact hP, hS.F ht⟩) hS.2.2 dMo_step_18
  have hR := fMo_step.eq_1 z0
  refine lv_aload_n hx hb dMo_step_0 rfl (lv_at hl 0 rfl) ?_
  refine mg0_next hx hb hts i0 hown hK hP w2 dMo_step_1 ?_
  refine lv_istore_n (lv' := [(1, .int (m_nxt z0)), (0, .ref (q 0))]) hx hb dMo_step_4 rfl hl (by decide) rfl (fun ls hl => ?_)
  exact hB5 s.heap [] ls z0 (m_nxt z0) hR (by first | assumption | omega) hP hS (lv_sub hl [1, 0] rfl)
