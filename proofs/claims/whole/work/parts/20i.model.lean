theorem mA_tk {z : SM} {b : Bool} {v : Int64} (hA : m_A z) (hv : 0 ≤ v.toInt ∧ v.toInt ≤ 10000) : m_A (fMo_take z b v).2 := by
  have h := tk3 z b hv
  exact mA_B hA h.2.1 (by rw [h.2.2]; exact hA.2.2.2.2.2)
theorem mA_po {z : SM} {a : Int32} {b : Bool} {v : Int64} (hA : m_A z) (ha : pp a) (hv : 0 ≤ v.toInt ∧ v.toInt ≤ 10000) : m_A (fMo_placeOf z a b v).2 := by
  have h := po3 z b ha hv hA.2.2.2.2.2
  exact mA_B hA h.2.1 h.2.2
theorem mA_at {z : SM} {k : Nat} {x : Int32} (hA : m_A z) (hx : pl x) : m_A (m_ats_s z (upd (m_ats z) k x)) := ⟨hA.1, hA.2.1, hA.2.2.1, hA.2.2.2.1, upd_all hA.2.2.2.2.1 hx, hA.2.2.2.2.2⟩
theorem at_nn {z : SM} {k : Nat} {x : Int32} (hx : nn x) : nn (m_ats (m_ats_s z (upd (m_ats z) k x)) k) := by
  show nn (upd (m_ats z) k x k)
  unfold upd
  rw [if_pos rfl]
  exact hx
theorem nxl {k x : Int32} (hk : vp_in k 40) (hx : 0 ≤ x.toInt ∧ x.toInt ≤ 40) (h : ¬ x ≤ k + 1) : vp_in (k + 1) 40 := by
  obtain ⟨a1, a2⟩ := vp_in_iff.mp hk
  have h1 := lk_lt h
  have e := i_inc (x := k) (by omega) a1
  exact vp_in_iff.mpr ⟨by omega, by omega⟩
theorem po_at {z : SM} {a : Int32} {b : Bool} {v : Int64} {k : Nat} (hA : m_A z) (ha : pp a) (hv : 0 ≤ v.toInt ∧ v.toInt ≤ 10000) (h : nn (m_ats z k)) : nn (m_ats (fMo_placeOf z a b v).2 k) := by
  rw [(po3 z b ha hv hA.2.2.2.2.2).2.1.2.2.2.2.2]
  exact h
theorem tk_ops (z : SM) (b : Bool) {v : Int64} (hv : 0 ≤ v.toInt ∧ v.toInt ≤ 10000) (k : Nat) : m_ops z k = m_ops (fMo_take z b v).2 k := by
  rw [(tk3 z b hv).2.1.2.2.2.2.1]
theorem po_ops {z : SM} {a : Int32} (b : Bool) {v : Int64} (hA : m_A z) (ha : pp a) (hv : 0 ≤ v.toInt ∧ v.toInt ≤ 10000) (k : Nat) : m_ops z k = m_ops (fMo_placeOf z a b v).2 k := by
  rw [(po3 z b ha hv hA.2.2.2.2.2).2.1.2.2.2.2.1]
theorem sh_nn {z : SM} {k : Nat} {o : Int32} (hk : k < 40) (hA : m_A z) (h4 : o = m_ops z k) (hs : fMo_shifts o = true) (h : ¬ m_dat z k = -1) : nn (m_dat z k) := nn_of ((hA.2.2.2.1 _ hk).2 (by rw [← h4]; exact hs)) h
theorem dMo_settle_0 : decode ccMo_settle 0 = .ok (.aload_n 0, 1) := by decide +kernel
theorem dMo_settle_1 : decode ccMo_settle 1 = .ok (.getfield 30, 3) := by decide +kernel
theorem dMo_settle_4 : decode ccMo_settle 4 = .ok (.iload_n 1, 1) := by decide +kernel
theorem dMo_settle_5 : decode ccMo_settle 5 = .ok (.iaload, 1) := by decide +kernel
theorem dMo_settle_6 : decode ccMo_settle 6 = .ok (.istore 4, 2) := by decide +kernel
theorem dMo_settle_8 : decode ccMo_settle 8 = .ok (.aload_n 0, 1) := by decide +kernel
theorem dMo_settle_9 : decode ccMo_settle 9 = .ok (.getfield 48, 3) := by decide +kernel
theorem dMo_settle_12 : decode ccMo_settle 12 = .ok (.iload_n 1, 1) := by decide +kernel
theorem dMo_settle_13 : decode ccMo_settle 13 = .ok (.iload_n 2, 1) := by decide +kernel
theorem dMo_settle_14 : decode ccMo_settle 14 = .ok (.iconst (-1), 1) := by decide +kernel
theorem dMo_settle_15 : decode ccMo_settle 15 = .ok (.if_icmp .eq 7, 3) := by decide +kernel
theorem dMo_settle_18 : decode ccMo_settle 18 = .ok (.iload_n 2, 1) := by decide +kernel
theorem dMo_settle_19 : decode ccMo_settle 19 = .ok (.goto 34, 3) := by decide +kernel
theorem dMo_settle_22 : decode ccMo_settle 22 = .ok (.aload_n 0, 1) := by decide +kernel
theorem dMo_settle_23 : decode ccMo_settle 23 = .ok (.getfield 27, 3) := by decide +kernel
theorem dMo_settle_26 : decode ccMo_settle 26 = .ok (.iload_n 1, 1) := by decide +kernel
theorem dMo_settle_27 : decode ccMo_settle 27 = .ok (.iaload, 1) := by decide +kernel
theorem dMo_settle_28 : decode ccMo_settle 28 = .ok (.iconst (-1), 1) := by decide +kernel
theorem dMo_settle_29 : decode ccMo_settle 29 = .ok (.if_icmp .ne 12, 3) := by decide +kernel
theorem dMo_settle_32 : decode ccMo_settle 32 = .ok (.aload_n 0, 1) := by decide +kernel
theorem dMo_settle_33 : decode ccMo_settle 33 = .ok (.iload_n 3, 1) := by decide +kernel
theorem dMo_settle_34 : decode ccMo_settle 34 = .ok (.lconst 0, 1) := by decide +kernel
theorem dMo_settle_35 : decode ccMo_settle 35 = .ok (.invokevirtual 211, 3) := by decide +kernel
theorem dMo_settle_38 : decode ccMo_settle 38 = .ok (.goto 15, 3) := by decide +kernel
theorem dMo_settle_41 : decode ccMo_settle 41 = .ok (.aload_n 0, 1) := by decide +kernel
theorem dMo_settle_42 : decode ccMo_settle 42 = .ok (.aload_n 0, 1) := by decide +kernel
theorem dMo_settle_43 : decode ccMo_settle 43 = .ok (.getfield 27, 3) := by decide +kernel
theorem dMo_settle_46 : decode ccMo_settle 46 = .ok (.iload_n 1, 1) := by decide +kernel
theorem dMo_settle_47 : decode ccMo_settle 47 = .ok (.iaload, 1) := by decide +kernel
theorem dMo_settle_48 : decode ccMo_settle 48 = .ok (.iload_n 3, 1) := by decide +kernel
theorem dMo_settle_49 : decode ccMo_settle 49 = .ok (.lconst 0, 1) := by decide +kernel
theorem dMo_settle_50 : decode ccMo_settle 50 = .ok (.invokevirtual 215, 3) := by decide +kernel
theorem dMo_settle_53 : decode ccMo_settle 53 = .ok (.iastore, 1) := by decide +kernel
theorem dMo_settle_54 : decode ccMo_settle 54 = .ok (.aload_n 0, 1) := by decide +kernel
theorem dMo_settle_55 : decode ccMo_settle 55 = .ok (.getfield 33, 3) := by decide +kernel
theorem dMo_settle_58 : decode ccMo_settle 58 = .ok (.iload_n 1, 1) := by decide +kernel
theorem dMo_settle_59 : decode ccMo_settle 59 = .ok (.iaload, 1) := by decide +kernel
theorem dMo_settle_60 : decode ccMo_settle 60 = .ok (.iconst (-1), 1) := by decide +kernel
theorem dMo_settle_61 : decode ccMo_settle 61 = .ok (.if_icmp .ne 7, 3) := by decide +kernel
theorem dMo_settle_64 : decode ccMo_settle 64 = .ok (.iconst 0, 1) := by decide +kernel
theorem dMo_settle_65 : decode ccMo_settle 65 = .ok (.goto 40, 3) := by decide +kernel
theorem dMo_settle_68 : decode ccMo_settle 68 = .ok (.iload 4, 2) := by decide +kernel
theorem dMo_settle_70 : decode ccMo_settle 70 = .ok (.invokestatic 96, 3) := by decide +kernel
theorem dMo_settle_73 : decode ccMo_settle 73 = .ok (.ifCond .eq 12, 3) := by decide +kernel
theorem dMo_settle_76 : decode ccMo_settle 76 = .ok (.aload_n 0, 1) := by decide +kernel
theorem dMo_settle_77 : decode ccMo_settle 77 = .ok (.getfield 33, 3) := by decide +kernel
theorem dMo_settle_80 : decode ccMo_settle 80 = .ok (.iload_n 1, 1) := by decide +kernel
theorem dMo_settle_81 : decode ccMo_settle 81 = .ok (.iaload, 1) := by decide +kernel
theorem dMo_settle_82 : decode ccMo_settle 82 = .ok (.goto 23, 3) := by decide +kernel
theorem dMo_settle_85 : decode ccMo_settle 85 = .ok (.aload_n 0, 1) := by decide +kernel
theorem dMo_settle_86 : decode ccMo_settle 86 = .ok (.aload_n 0, 1) := by decide +kernel
theorem dMo_settle_87 : decode ccMo_settle 87 = .ok (.getfield 33, 3) := by decide +kernel
theorem dMo_settle_90 : decode ccMo_settle 90 = .ok (.iload_n 1, 1) := by decide +kernel
theorem dMo_settle_91 : decode ccMo_settle 91 = .ok (.iaload, 1) := by decide +kernel
theorem dMo_settle_92 : decode ccMo_settle 92 = .ok (.iload_n 3, 1) := by decide +kernel
theorem dMo_settle_93 : decode ccMo_settle 93 = .ok (.aload_n 0, 1) := by decide +kernel
theorem dMo_settle_94 : decode ccMo_settle 94 = .ok (.getfield 48, 3) := by decide +kernel
theorem dMo_settle_97 : decode ccMo_settle 97 = .ok (.iload_n 1, 1) := by decide +kernel
theorem dMo_settle_98 : decode ccMo_settle 98 = .ok (.iaload, 1) := by decide +kernel
theorem dMo_settle_99 : decode ccMo_settle 99 = .ok (.i2l, 1) := by decide +kernel
theorem dMo_settle_100 : decode ccMo_settle 100 = .ok (.lconst 1, 1) := by decide +kernel
theorem dMo_settle_101 : decode ccMo_settle 101 = .ok (.ladd, 1) := by decide +kernel
theorem dMo_settle_102 : decode ccMo_settle 102 = .ok (.invokevirtual 215, 3) := by decide +kernel
theorem dMo_settle_105 : decode ccMo_settle 105 = .ok (.istore 5, 2) := by decide +kernel
theorem dMo_settle_107 : decode ccMo_settle 107 = .ok (.iload 4, 2) := by decide +kernel
theorem dMo_settle_109 : decode ccMo_settle 109 = .ok (.invokestatic 90, 3) := by decide +kernel
theorem dMo_settle_112 : decode ccMo_settle 112 = .ok (.ifCond .ne 11, 3) := by decide +kernel
theorem dMo_settle_115 : decode ccMo_settle 115 = .ok (.iload 4, 2) := by decide +kernel
theorem dMo_settle_117 : decode ccMo_settle 117 = .ok (.invokestatic 93, 3) := by decide +kernel
theorem dMo_settle_120 : decode ccMo_settle 120 = .ok (.ifCond .eq 7, 3) := by decide +kernel
theorem dMo_settle_123 : decode ccMo_settle 123 = .ok (.iconst 1, 1) := by decide +kernel
theorem dMo_settle_124 : decode ccMo_settle 124 = .ok (.goto 4, 3) := by decide +kernel
theorem dMo_settle_127 : decode ccMo_settle 127 = .ok (.iconst 0, 1) := by decide +kernel
theorem dMo_settle_128 : decode ccMo_settle 128 = .ok (.istore 6, 2) := by decide +kernel
theorem dMo_settle_130 : decode ccMo_settle 130 = .ok (.iload 6, 2) := by decide +kernel
theorem dMo_settle_132 : decode ccMo_settle 132 = .ok (.ifCond .eq 8, 3) := by decide +kernel
theorem dMo_settle_135 : decode ccMo_settle 135 = .ok (.iload 5, 2) := by decide +kernel
theorem dMo_settle_137 : decode ccMo_settle 137 = .ok (.goto 9, 3) := by decide +kernel
theorem dMo_settle_140 : decode ccMo_settle 140 = .ok (.aload_n 0, 1) := by decide +kernel
theorem dMo_settle_141 : decode ccMo_settle 141 = .ok (.getfield 48, 3) := by decide +kernel
theorem dMo_settle_144 : decode ccMo_settle 144 = .ok (.iload_n 1, 1) := by decide +kernel
theorem dMo_settle_145 : decode ccMo_settle 145 = .ok (.iaload, 1) := by decide +kernel
theorem dMo_settle_146 : decode ccMo_settle 146 = .ok (.i2l, 1) := by decide +kernel
theorem dMo_settle_147 : decode ccMo_settle 147 = .ok (.lconst 1, 1) := by decide +kernel
theorem dMo_settle_148 : decode ccMo_settle 148 = .ok (.ladd, 1) := by decide +kernel
theorem dMo_settle_149 : decode ccMo_settle 149 = .ok (.iload 4, 2) := by decide +kernel
theorem dMo_settle_151 : decode ccMo_settle 151 = .ok (.iload 5, 2) := by decide +kernel
theorem dMo_settle_153 : decode ccMo_settle 153 = .ok (.invokestatic 146, 3) := by decide +kernel
theorem dMo_settle_156 : decode ccMo_settle 156 = .ok (.i2l, 1) := by decide +kernel
theorem dMo_settle_157 : decode ccMo_settle 157 = .ok (.ladd, 1) := by decide +kernel
theorem dMo_settle_158 : decode ccMo_settle 158 = .ok (.lstore 7, 2) := by decide +kernel
theorem dMo_settle_160 : decode ccMo_settle 160 = .ok (.aload_n 0, 1) := by decide +kernel
theorem dMo_settle_161 : decode ccMo_settle 161 = .ok (.getfield 36, 3) := by decide +kernel
theorem dMo_settle_164 : decode ccMo_settle 164 = .ok (.iload_n 1, 1) := by decide +kernel
theorem dMo_settle_165 : decode ccMo_settle 165 = .ok (.iaload, 1) := by decide +kernel
theorem dMo_settle_166 : decode ccMo_settle 166 = .ok (.iconst (-1), 1) := by decide +kernel
theorem dMo_settle_167 : decode ccMo_settle 167 = .ok (.if_icmp .ne 29, 3) := by decide +kernel
theorem dMo_settle_170 : decode ccMo_settle 170 = .ok (.iload_n 1, 1) := by decide +kernel
theorem dMo_settle_171 : decode ccMo_settle 171 = .ok (.iconst 1, 1) := by decide +kernel
theorem dMo_settle_172 : decode ccMo_settle 172 = .ok (.iadd, 1) := by decide +kernel
theorem dMo_settle_173 : decode ccMo_settle 173 = .ok (.aload_n 0, 1) := by decide +kernel
theorem dMo_settle_174 : decode ccMo_settle 174 = .ok (.getfield 205, 3) := by decide +kernel
theorem dMo_settle_177 : decode ccMo_settle 177 = .ok (.if_icmp .ge 19, 3) := by decide +kernel
theorem dMo_settle_180 : decode ccMo_settle 180 = .ok (.aload_n 0, 1) := by decide +kernel
theorem dMo_settle_181 : decode ccMo_settle 181 = .ok (.getfield 27, 3) := by decide +kernel
theorem dMo_settle_184 : decode ccMo_settle 184 = .ok (.iload_n 1, 1) := by decide +kernel
theorem dMo_settle_185 : decode ccMo_settle 185 = .ok (.iconst 1, 1) := by decide +kernel
theorem dMo_settle_186 : decode ccMo_settle 186 = .ok (.iadd, 1) := by decide +kernel
theorem dMo_settle_187 : decode ccMo_settle 187 = .ok (.iaload, 1) := by decide +kernel
theorem dMo_settle_188 : decode ccMo_settle 188 = .ok (.iconst (-1), 1) := by decide +kernel
theorem dMo_settle_189 : decode ccMo_settle 189 = .ok (.if_icmp .ne 7, 3) := by decide +kernel
theorem dMo_settle_192 : decode ccMo_settle 192 = .ok (.iconst 1, 1) := by decide +kernel
theorem dMo_settle_193 : decode ccMo_settle 193 = .ok (.goto 4, 3) := by decide +kernel
theorem dMo_settle_196 : decode ccMo_settle 196 = .ok (.iconst 0, 1) := by decide +kernel
theorem dMo_settle_197 : decode ccMo_settle 197 = .ok (.istore 9, 2) := by decide +kernel
theorem dMo_settle_199 : decode ccMo_settle 199 = .ok (.iload 9, 2) := by decide +kernel
theorem dMo_settle_201 : decode ccMo_settle 201 = .ok (.ifCond .eq 13, 3) := by decide +kernel
theorem dMo_settle_204 : decode ccMo_settle 204 = .ok (.aload_n 0, 1) := by decide +kernel
theorem dMo_settle_205 : decode ccMo_settle 205 = .ok (.iload_n 3, 1) := by decide +kernel
theorem dMo_settle_206 : decode ccMo_settle 206 = .ok (.lload 7, 2) := by decide +kernel
theorem dMo_settle_208 : decode ccMo_settle 208 = .ok (.invokevirtual 211, 3) := by decide +kernel
theorem dMo_settle_211 : decode ccMo_settle 211 = .ok (.goto 30, 3) := by decide +kernel
theorem dMo_settle_214 : decode ccMo_settle 214 = .ok (.aload_n 0, 1) := by decide +kernel
theorem dMo_settle_215 : decode ccMo_settle 215 = .ok (.getfield 36, 3) := by decide +kernel
theorem dMo_settle_218 : decode ccMo_settle 218 = .ok (.iload_n 1, 1) := by decide +kernel
theorem dMo_settle_219 : decode ccMo_settle 219 = .ok (.iaload, 1) := by decide +kernel
theorem dMo_settle_220 : decode ccMo_settle 220 = .ok (.iconst (-1), 1) := by decide +kernel
theorem dMo_settle_221 : decode ccMo_settle 221 = .ok (.if_icmp .ne 7, 3) := by decide +kernel
theorem dMo_settle_224 : decode ccMo_settle 224 = .ok (.iconst 0, 1) := by decide +kernel
theorem dMo_settle_225 : decode ccMo_settle 225 = .ok (.goto 16, 3) := by decide +kernel
theorem dMo_settle_228 : decode ccMo_settle 228 = .ok (.aload_n 0, 1) := by decide +kernel
theorem dMo_settle_229 : decode ccMo_settle 229 = .ok (.aload_n 0, 1) := by decide +kernel
theorem dMo_settle_230 : decode ccMo_settle 230 = .ok (.getfield 36, 3) := by decide +kernel
theorem dMo_settle_233 : decode ccMo_settle 233 = .ok (.iload_n 1, 1) := by decide +kernel
theorem dMo_settle_234 : decode ccMo_settle 234 = .ok (.iaload, 1) := by decide +kernel
theorem dMo_settle_235 : decode ccMo_settle 235 = .ok (.iload_n 3, 1) := by decide +kernel
theorem dMo_settle_236 : decode ccMo_settle 236 = .ok (.lload 7, 2) := by decide +kernel
theorem dMo_settle_238 : decode ccMo_settle 238 = .ok (.invokevirtual 215, 3) := by decide +kernel
theorem dMo_settle_241 : decode ccMo_settle 241 = .ok (.istore 10, 2) := by decide +kernel
theorem dMo_settle_243 : decode ccMo_settle 243 = .ok (.aload_n 0, 1) := by decide +kernel
theorem dMo_settle_244 : decode ccMo_settle 244 = .ok (.getfield 51, 3) := by decide +kernel
theorem dMo_settle_247 : decode ccMo_settle 247 = .ok (.iload_n 1, 1) := by decide +kernel
theorem dMo_settle_248 : decode ccMo_settle 248 = .ok (.ldc2_w 166, 3) := by decide +kernel
theorem dMo_settle_251 : decode ccMo_settle 251 = .ok (.iload 4, 2) := by decide +kernel
theorem dMo_settle_253 : decode ccMo_settle 253 = .ok (.i2l, 1) := by decide +kernel
theorem dMo_settle_254 : decode ccMo_settle 254 = .ok (.lmul, 1) := by decide +kernel
theorem dMo_settle_255 : decode ccMo_settle 255 = .ok (.ldc2_w 164, 3) := by decide +kernel
theorem dMo_settle_258 : decode ccMo_settle 258 = .ok (.iload 5, 2) := by decide +kernel
theorem dMo_settle_260 : decode ccMo_settle 260 = .ok (.i2l, 1) := by decide +kernel
theorem dMo_settle_261 : decode ccMo_settle 261 = .ok (.lmul, 1) := by decide +kernel
theorem dMo_settle_262 : decode ccMo_settle 262 = .ok (.ladd, 1) := by decide +kernel
theorem dMo_settle_263 : decode ccMo_settle 263 = .ok (.iload 10, 2) := by decide +kernel
theorem dMo_settle_265 : decode ccMo_settle 265 = .ok (.i2l, 1) := by decide +kernel
theorem dMo_settle_266 : decode ccMo_settle 266 = .ok (.ladd, 1) := by decide +kernel
theorem dMo_settle_267 : decode ccMo_settle 267 = .ok (.lastore, 1) := by decide +kernel
theorem dMo_settle_268 : decode ccMo_settle 268 = .ok (.iload_n 1, 1) := by decide +kernel
theorem dMo_settle_269 : decode ccMo_settle 269 = .ok (.iconst 1, 1) := by decide +kernel
theorem dMo_settle_270 : decode ccMo_settle 270 = .ok (.iadd, 1) := by decide +kernel
theorem dMo_settle_271 : decode ccMo_settle 271 = .ok (.aload_n 0, 1) := by decide +kernel
theorem dMo_settle_272 : decode ccMo_settle 272 = .ok (.getfield 205, 3) := by decide +kernel
theorem dMo_settle_275 : decode ccMo_settle 275 = .ok (.if_icmp .ge 22, 3) := by decide +kernel
theorem dMo_settle_278 : decode ccMo_settle 278 = .ok (.aload_n 0, 1) := by decide +kernel
theorem dMo_settle_279 : decode ccMo_settle 279 = .ok (.getfield 48, 3) := by decide +kernel
theorem dMo_settle_282 : decode ccMo_settle 282 = .ok (.iload_n 1, 1) := by decide +kernel
theorem dMo_settle_283 : decode ccMo_settle 283 = .ok (.iconst 1, 1) := by decide +kernel
theorem dMo_settle_284 : decode ccMo_settle 284 = .ok (.iadd, 1) := by decide +kernel
theorem dMo_settle_285 : decode ccMo_settle 285 = .ok (.iload 9, 2) := by decide +kernel
theorem dMo_settle_287 : decode ccMo_settle 287 = .ok (.ifCond .eq 8, 3) := by decide +kernel
theorem dMo_settle_290 : decode ccMo_settle 290 = .ok (.iload 10, 2) := by decide +kernel
theorem dMo_settle_292 : decode ccMo_settle 292 = .ok (.goto 4, 3) := by decide +kernel
theorem dMo_settle_295 : decode ccMo_settle 295 = .ok (.iconst (-1), 1) := by decide +kernel
theorem dMo_settle_296 : decode ccMo_settle 296 = .ok (.iastore, 1) := by decide +kernel
theorem dMo_settle_297 : decode ccMo_settle 297 = .ok (.return_, 1) := by decide +kernel
def fMo_settle_241  (z : SM) (s0 : Int32) (k : Int32) (v4 : Int32) (v5 : Int32) (v9 : Bool) : SM :=
  (if (m_lines z) ≤ (k + 1) then m_writ_s z (vp_updL (m_writ z) k.toNatClampNeg (((100000000 * v4.toInt64) + (10000 * v5.toInt64)) + s0.toInt64)) else (if v9 = true then m_ats_s (m_writ_s z (vp_updL (m_writ z) k.toNatClampNeg (((100000000 * v4.toInt64) + (10000 * v5.toInt64)) + s0.toInt64))) (upd (m_ats z) ((k + 1).toNatClampNeg) s0) else m_ats_s (m_writ_s z (vp_updL (m_writ z) k.toNatClampNeg (((100000000 * v4.toInt64) + (10000 * v5.toInt64)) + s0.toInt64))) (upd (m_ats z) ((k + 1).toNatClampNeg) ((-1)))))
def fMo_settle_199  (z : SM) (k : Int32) (b : Bool) (v4 : Int32) (v5 : Int32) (v7 : Int64) (v9 : Bool) : SM :=
  (if v9 = true then fMo_settle_241 ((fMo_take z b v7).2) ((fMo_take z b v7).1) k v4 v5 v9 else (if (m_foll z k.toNatClampNeg) = ((-1) : Int32) then fMo_settle_241 z 0 k v4 v5 v9 else fMo_settle_241 ((fMo_placeOf z (m_foll z k.toNatClampNeg) b v7).2) ((fMo_placeOf z (m_foll z k.toNatClampNeg) b v7).1) k v4 v5 v9))
def fMo_settle_197  (z : SM) (s0 : Bool) (k : Int32) (b : Bool) (v4 : Int32) (v5 : Int32) (v7 : Int64) : SM :=
  fMo_settle_199 z k b v4 v5 v7 s0
def fMo_settle_196  (z : SM) (k : Int32) (b : Bool) (v4 : Int32) (v5 : Int32) (v7 : Int64) : SM :=
  fMo_settle_197 z false k b v4 v5 v7
def fMo_settle_160  (z : SM) (k : Int32) (b : Bool) (v4 : Int32) (v5 : Int32) (v7 : Int64) : SM :=
  (if (m_foll z k.toNatClampNeg) = ((-1) : Int32) then (if (m_lines z) ≤ (k + 1) then fMo_settle_196 z k b v4 v5 v7 else (if (m_loc z ((k + 1).toNatClampNeg)) = ((-1) : Int32) then fMo_settle_197 z true k b v4 v5 v7 else fMo_settle_196 z k b v4 v5 v7)) else fMo_settle_196 z k b v4 v5 v7)
def fMo_settle_146  (z : SM) (s0 : Int32) (k : Int32) (b : Bool) (v4 : Int32) (v5 : Int32) : SM :=
  fMo_settle_160 z k b v4 v5 ((s0.toInt64 + 1) + ((fMo_fixed v4 v5).toInt64))
def fMo_settle_128  (z : SM) (s0 : Bool) (k : Int32) (b : Bool) (v4 : Int32) (v5 : Int32) : SM :=
  (if s0 = true then fMo_settle_146 z v5 k b v4 v5 else fMo_settle_146 z (m_ats z k.toNatClampNeg) k b v4 v5)
def fMo_settle_123  (z : SM) (k : Int32) (b : Bool) (v4 : Int32) (v5 : Int32) : SM :=
  fMo_settle_128 z true k b v4 v5
def fMo_settle_105  (z : SM) (s0 : Int32) (k : Int32) (b : Bool) (v4 : Int32) : SM :=
  (if (fMo_reads v4) = true then fMo_settle_123 z k b v4 s0 else (if (fMo_writes v4) = true then fMo_settle_123 z k b v4 s0 else fMo_settle_128 z false k b v4 s0))
def fMo_settle_54  (z : SM) (k : Int32) (b : Bool) (v4 : Int32) : SM :=
  (if (m_dat z k.toNatClampNeg) = ((-1) : Int32) then fMo_settle_105 z 0 k b v4 else (if (fMo_shifts v4) = true then fMo_settle_105 z (m_dat z k.toNatClampNeg) k b v4 else fMo_settle_105 ((fMo_placeOf z (m_dat z k.toNatClampNeg) b (((m_ats z k.toNatClampNeg).toInt64) + 1)).2) ((fMo_placeOf z (m_dat z k.toNatClampNeg) b (((m_ats z k.toNatClampNeg).toInt64) + 1)).1) k b v4))
def fMo_settle_53  (z : SM) (s1 : Int32) (s2 : Int32) (k : Int32) (b : Bool) (v4 : Int32) : SM :=
  fMo_settle_54 (m_ats_s z (upd (m_ats z) s1.toNatClampNeg s2)) k b v4
def fMo_settle (z0 : SM) (k : Int32) (g : Int32) (b : Bool) : SM :=
  (if g = ((-1) : Int32) then (if (m_loc z0 k.toNatClampNeg) = ((-1) : Int32) then fMo_settle_53 ((fMo_take z0 b 0).2) k ((fMo_take z0 b 0).1) k b (m_ops z0 k.toNatClampNeg) else fMo_settle_53 ((fMo_placeOf z0 (m_loc z0 k.toNatClampNeg) b 0).2) k ((fMo_placeOf z0 (m_loc z0 k.toNatClampNeg) b 0).1) k b (m_ops z0 k.toNatClampNeg)) else fMo_settle_53 z0 k g k b (m_ops z0 k.toNatClampNeg))
set_option maxHeartbeats 4000000 in
set_option maxRecDepth 100000 in
theorem kMo_settle (l : Launch) (D : va_G) (q : Nat → Nat) (cI cJ cZ : ClassId) (hq : m_inj q) (z0 : SM) (k : Int32) (g : Int32) (b : Bool) (hk : vp_in k 40) (hg : pl g) (hA : m_A z0) : Met l yMo_settle wsMo_settle { frames := 2, cells := 0, slots := 0, locals := 51 } (va_Pc [.ref (q 0), .int (k), .int (g), .int (bb (b))] (m_C D q cI cJ cZ z0)) (cQw none (m_W D q cI cJ cZ (fMo_settle z0 k g b)) (m_qs q)) 0 0 (m_qs q) := by
  refine Met.ofW (cc := ccMo_settle) (maxL := 11) (ret := none) (by decide +kernel) rfl ?_
  intro p e s m args below meth c s₁ B hml hv
  obtain ⟨rfl, hP, hK⟩ := hv
  have hx := B.exec
  have hb := B.bytes
  have hr := B.returns
  have hts := atoms_spec (ws := wsMo_settle) B.pre
  have hown : s.vm.findClass RMo = some m.cls := findClass_of_methodNamed B.named
  have hlocks := B.notSynchronized
  have w0 := hts (.fieldLink RMo 51 "DrumMachineModel" "written" "[J") (List.mem_cons_of_mem _ wm4_214)
  have w1 := hts (.constantLong RMo 166 (100000000)) (List.mem_cons_of_mem _ wm5_85)
  have w2 := hts (.constantLong RMo 164 (10000)) (List.mem_cons_of_mem _ wm5_86)
  have w3 := hts (.fieldLink RMo 205 "DrumMachineModel" "lines" "I") (List.mem_cons_of_mem _ wm4_205)
  have w4 := hts (.fieldLink RMo 48 "DrumMachineModel" "at" "[I") (List.mem_cons_of_mem _ wm4_213)
  have w5 := hts (.fieldLink RMo 36 "DrumMachineModel" "following" "[I") (List.mem_cons_of_mem _ wm4_209)
  have w6 := hts (.fieldLink RMo 27 "DrumMachineModel" "location" "[I") (List.mem_cons_of_mem _ wm4_206)
  have w7 := hts (.fieldLink RMo 33 "DrumMachineModel" "data" "[I") (List.mem_cons_of_mem _ wm4_208)
  have w8 := hts (.fieldLink RMo 30 "DrumMachineModel" "operation" "[I") (List.mem_cons_of_mem _ wm4_207)
  have i0 : ∀ w ∈ u_ws RMo TMo 28, w ∈ wsMo_settle := fun w h => List.mem_cons_of_mem _ (inAMo w h)
  have hS : va_S (m_qs q) s.heap s.heap [] := va_S.rf
  have hl := lv_entry ([.ref (q 0), .int (k), .int (g), .int (bb (b))]) (n := 11) (Nat.le_of_ble_eq_true rfl)
  rw [lg_entry_eq]
  generalize (lg_sl ([.ref (q 0), .int (k), .int (g), .int (bb (b))]) ++ List.replicate (11 - (lg_sl ([.ref (q 0), .int (k), .int (g), .int (bb (b))])).length) Slot.unset).toArray = ls at hl ⊢
  have hl : lv_has ls 11 [(0, .ref (q 0)), (1, .int (k)), (2, .int (g)), (3, .int (bb (b)))] := hl
  have hB241 : ∀ (H : Heap) (locs : List Loc) (ls : Array Slot) (z : SM) (s0 : Int32) (v4 : Int32) (v5 : Int32) (v9 : Bool), fMo_settle z0 k g b = fMo_settle_241 z s0 k v4 v5 v9 → (0 ≤ (m_lines z).toInt ∧ (m_lines z).toInt ≤ 40) → m_W D q cI cJ cZ z H → va_S (m_qs q) s.heap H locs → lv_has ls 11 [(0, .ref (q 0)), (1, .int (k)), (4, .int (v4)), (5, .int (v5)), (9, .int (bb (v9)))] → W p l e (headSpec wsMo_settle { frames := 2, cells := 0, slots := 0, locals := 51 }).room s m ([.ref (q 0), .int (k), .int (g), .int (bb (b))] : List Value).toArray below meth c H locs 0 0 (MQ below (cQw none (m_W D q cI cJ cZ (fMo_settle z0 k g b)) (m_qs q)) ([.ref (q 0), .int (k), .int (g), .int (bb (b))] : List Value).toArray s 0 0 (m_qs q)) (F0 m 241 ls [.int (s0)]) := by
    intro H locs ls z s0 v4 v5 v9 hR hl9 hP hS hl
    rw [fMo_settle_241.eq_1] at hR
    refine lv_istore (lv' := [(10, .int (s0)), (0, .ref (q 0)), (1, .int (k)), (4, .int (v4)), (5, .int (v5)), (9, .int (bb (v9)))]) hx hb dMo_settle_241 hl (by decide) rfl (fun ls hl => ?_)
    refine lv_aload_n hx hb dMo_settle_243 rfl (lv_at hl 1 rfl) ?_
    refine mg0_written hx hb hts i0 hown hK hP w0 dMo_settle_244 ?_
    refine lv_iload_n hx hb dMo_settle_247 rfl (lv_at hl 2 rfl) ?_
    refine lv_ldc2 (v := 100000000) hx hb hown w1 dMo_settle_248 ?_
    refine lv_iload hx hb dMo_settle_251 (lv_at hl 3 rfl) ?_
    refine lv_i2l hx hb dMo_settle_253 rfl ?_
    refine lv_lmul hx hb dMo_settle_254 ?_
    refine lv_ldc2 (v := 10000) hx hb hown w2 dMo_settle_255 ?_
    refine lv_iload hx hb dMo_settle_258 (lv_at hl 4 rfl) ?_
    refine lv_i2l hx hb dMo_settle_260 rfl ?_
    refine lv_lmul hx hb dMo_settle_261 ?_
    refine lv_ladd hx hb dMo_settle_262 ?_
    refine lv_iload hx hb dMo_settle_263 (lv_at hl 0 rfl) ?_
    refine lv_i2l hx hb dMo_settle_265 rfl ?_
    refine lv_ladd hx hb dMo_settle_266 ?_
    refine ms_writ (((100000000 * v4.toInt64) + (10000 * v5.toInt64)) + s0.toInt64) hq hS hx hb hK hP hk dMo_settle_267 (fun H locs hP hS => ?_)
    refine lv_iload_n hx hb dMo_settle_268 rfl (lv_at hl 2 rfl) ?_
    refine lv_iconst (v := 1) hx hb dMo_settle_269 (by decide) ?_
    refine lv_iadd hx hb dMo_settle_270 ?_
    refine lv_aload_n hx hb dMo_settle_271 rfl (lv_at hl 1 rfl) ?_
    refine mg0_lines_e (v := m_lines z) ((m_lines_writ _ _).trans (rfl)) hx hb hts i0 hown hK hP w3 dMo_settle_272 ?_
    refine lv_icmp_ge hx hb dMo_settle_275 rfl (fun h275 => ?_) (fun h275 => ?_)
    · have hR := hR.trans (if_pos h275)
      exact W.vret hx hb hr (fun t ht _ => ⟨rfl, by rw [hR, ht]; exact hP, hS.F ht⟩) hS.2.2 dMo_settle_297
    · have hR := hR.trans (if_neg h275)
      refine lv_aload_n hx hb dMo_settle_278 rfl (lv_at hl 1 rfl) ?_
      refine mg0_at hx hb hts i0 hown hK hP w4 dMo_settle_279 ?_
      refine lv_iload_n hx hb dMo_settle_282 rfl (lv_at hl 2 rfl) ?_
      refine lv_iconst (v := 1) hx hb dMo_settle_283 (by decide) ?_
      refine lv_iadd hx hb dMo_settle_284 ?_
      refine lv_iload hx hb dMo_settle_285 (lv_at hl 5 rfl) ?_
      refine wz_ifeq hx hb dMo_settle_287 rfl (fun h287 => ?_) (fun h287 => ?_)
      · have hR := hR.trans (if_neg h287)
        refine lv_iconst (v := (-1)) hx hb dMo_settle_295 (by decide) ?_
        refine ms_ats_e ((-1)) (f := m_ats z) ((m_ats_writ _ _).trans (rfl)) hq hS hx hb hK hP (nxl hk hl9 h275) dMo_settle_296 (fun H locs hP hS => ?_)
        exact W.vret hx hb hr (fun t ht _ => ⟨rfl, by rw [hR, ht]; exact hP, hS.F ht⟩) hS.2.2 dMo_settle_297
      · have hR := hR.trans (if_pos h287)
        refine lv_iload hx hb dMo_settle_290 (lv_at hl 0 rfl) ?_
        refine lv_goto hx hb dMo_settle_292 rfl ?_
        refine ms_ats_e s0 (f := m_ats z) ((m_ats_writ _ _).trans (rfl)) hq hS hx hb hK hP (nxl hk hl9 h275) dMo_settle_296 (fun H locs hP hS => ?_)
        exact W.vret hx hb hr (fun t ht _ => ⟨rfl, by rw [hR, ht]; exact hP, hS.F ht⟩) hS.2.2 dMo_settle_297
  have hB199 : ∀ (H : Heap) (locs : List Loc) (ls : Array Slot) (z : SM) (v4 : Int32) (v5 : Int32) (v7 : Int64) (v9 : Bool), fMo_settle z0 k g b = fMo_settle_199 z k b v4 v5 v7 v9 → (m_A z) → (0 ≤ v7.toInt ∧ v7.toInt ≤ 10000) → m_W D q cI cJ cZ z H → va_S (m_qs q) s.heap H locs → lv_has ls 11 [(0, .ref (q 0)), (1, .int (k)), (3, .int (bb (b))), (4, .int (v4)), (5, .int (v5)), (7, .long (v7)), (9, .int (bb (v9)))] → W p l e (headSpec wsMo_settle { frames := 2, cells := 0, slots := 0, locals := 51 }).room s m ([.ref (q 0), .int (k), .int (g), .int (bb (b))] : List Value).toArray below meth c H locs 0 0 (MQ below (cQw none (m_W D q cI cJ cZ (fMo_settle z0 k g b)) (m_qs q)) ([.ref (q 0), .int (k), .int (g), .int (bb (b))] : List Value).toArray s 0 0 (m_qs q)) (F0 m 199 ls []) := by
    intro H locs ls z v4 v5 v7 v9 hR hA h7 hP hS hl
    rw [fMo_settle_199.eq_1] at hR
    refine lv_iload hx hb dMo_settle_199 (lv_at hl 6 rfl) ?_
    refine wz_ifeq hx hb dMo_settle_201 rfl (fun h201 => ?_) (fun h201 => ?_)
    · have hR := hR.trans (if_neg h201)
      refine lv_aload_n hx hb dMo_settle_214 rfl (lv_at hl 0 rfl) ?_
      refine mg0_following hx hb hts i0 hown hK hP w5 dMo_settle_215 ?_
      refine lv_iload_n hx hb dMo_settle_218 rfl (lv_at hl 1 rfl) ?_
      refine ml_foll hx hb hK hP hk dMo_settle_219 ?_
      refine lv_iconst (v := (-1)) hx hb dMo_settle_220 (by decide) ?_
      refine lv_icmp_ne hx hb dMo_settle_221 rfl (fun h221 => ?_) (fun h221 => ?_)
      · have hR := hR.trans (if_neg h221)
        refine lv_aload_n hx hb dMo_settle_228 rfl (lv_at hl 0 rfl) ?_
        refine lv_aload_n hx hb dMo_settle_229 rfl (lv_at hl 0 rfl) ?_
        refine mg0_following hx hb hts i0 hown hK hP w5 dMo_settle_230 ?_
        refine lv_iload_n hx hb dMo_settle_233 rfl (lv_at hl 1 rfl) ?_
        refine ml_foll hx hb hK hP hk dMo_settle_234 ?_
        refine lv_iload_n hx hb dMo_settle_235 rfl (lv_at hl 2 rfl) ?_
        refine lv_lload hx hb dMo_settle_236 (lv_at hl 5 rfl) ?_
        refine cl_wr (W.runV (As := [.int ((m_foll z k.toNatClampNeg)), .int (bb (b)), .long (v7)]) (rest := []) ⟨hx, hb, hml, hown, hts⟩ (kMo_placeOf l D q cI cJ cZ hq z (m_foll z k.toNatClampNeg) b v7 (hA.2.2.1 _ (ix_lt hk)) h7) (cwV 3 hts (gV wm5_182 wm5_184 ws4_1 wm1_9 wm5_185) rfl rfl rfl (by decide +kernel) ⟨Nat.le_of_ble_eq_true rfl, Nat.le_of_ble_eq_true rfl⟩) (m_preV0 hK hP) rfl rfl hl.1 rfl (lv_room (Nat.le_of_ble_eq_true rfl)) dMo_settle_238 ⟨Nat.le_refl _, Nat.le_refl _⟩) hS (fun _ h => h) (fun _ h => h) (fun H locs hP hS => ?_)
        exact hB241 H locs ls ((fMo_placeOf z (m_foll z k.toNatClampNeg) b v7).2) ((fMo_placeOf z (m_foll z k.toNatClampNeg) b v7).1) v4 v5 v9 hR (mA_po hA (hA.2.2.1 _ (ix_lt hk)) h7).1 hP hS (lv_sub hl [0, 1, 3, 4, 6] rfl)
      · have hR := hR.trans (if_pos h221)
        refine lv_iconst (v := 0) hx hb dMo_settle_224 (by decide) ?_
        refine lv_goto hx hb dMo_settle_225 rfl ?_
        exact hB241 H locs ls z 0 v4 v5 v9 hR hA.1 hP hS (lv_sub hl [0, 1, 3, 4, 6] rfl)
    · have hR := hR.trans (if_pos h201)
      refine lv_aload_n hx hb dMo_settle_204 rfl (lv_at hl 0 rfl) ?_
      refine lv_iload_n hx hb dMo_settle_205 rfl (lv_at hl 2 rfl) ?_
      refine lv_lload hx hb dMo_settle_206 (lv_at hl 5 rfl) ?_
      refine cl_wr (W.runV (As := [.int (bb (b)), .long (v7)]) (rest := []) ⟨hx, hb, hml, hown, hts⟩ (kMo_take l D q cI cJ cZ hq z b v7 h7) (cwV 2 hts (gV wm5_178 wm5_180 ws4_0 wm1_9 wm5_181) rfl rfl rfl (by decide +kernel) ⟨Nat.le_of_ble_eq_true rfl, Nat.le_of_ble_eq_true rfl⟩) (m_preV0 hK hP) rfl rfl hl.1 rfl (lv_room (Nat.le_of_ble_eq_true rfl)) dMo_settle_208 ⟨Nat.le_refl _, Nat.le_refl _⟩) hS (fun _ h => h) (fun _ h => h) (fun H locs hP hS => ?_)
      refine lv_goto hx hb dMo_settle_211 rfl ?_
      exact hB241 H locs ls ((fMo_take z b v7).2) ((fMo_take z b v7).1) v4 v5 v9 hR (mA_tk hA h7).1 hP hS (lv_sub hl [0, 1, 3, 4, 6] rfl)
  have hB197 : ∀ (H : Heap) (locs : List Loc) (ls : Array Slot) (z : SM) (s0 : Bool) (v4 : Int32) (v5 : Int32) (v7 : Int64), fMo_settle z0 k g b = fMo_settle_197 z s0 k b v4 v5 v7 → (m_A z) → (0 ≤ v7.toInt ∧ v7.toInt ≤ 10000) → m_W D q cI cJ cZ z H → va_S (m_qs q) s.heap H locs → lv_has ls 11 [(0, .ref (q 0)), (1, .int (k)), (3, .int (bb (b))), (4, .int (v4)), (5, .int (v5)), (7, .long (v7))] → W p l e (headSpec wsMo_settle { frames := 2, cells := 0, slots := 0, locals := 51 }).room s m ([.ref (q 0), .int (k), .int (g), .int (bb (b))] : List Value).toArray below meth c H locs 0 0 (MQ below (cQw none (m_W D q cI cJ cZ (fMo_settle z0 k g b)) (m_qs q)) ([.ref (q 0), .int (k), .int (g), .int (bb (b))] : List Value).toArray s 0 0 (m_qs q)) (F0 m 197 ls [.int (bb (s0))]) := by
    intro H locs ls z s0 v4 v5 v7 hR hA h7 hP hS hl
    rw [fMo_settle_197.eq_1] at hR
    refine lv_istore (lv' := [(9, .int (bb (s0))), (0, .ref (q 0)), (1, .int (k)), (3, .int (bb (b))), (4, .int (v4)), (5, .int (v5)), (7, .long (v7))]) hx hb dMo_settle_197 hl (by decide) rfl (fun ls hl => ?_)
    exact hB199 H locs ls z v4 v5 v7 s0 hR (by first | assumption | omega) (by first | assumption | omega) hP hS (lv_sub hl [1, 2, 3, 4, 5, 6, 0] rfl)
  have hB196 : ∀ (H : Heap) (locs : List Loc) (ls : Array Slot) (z : SM) (v4 : Int32) (v5 : Int32) (v7 : Int64), fMo_settle z0 k g b = fMo_settle_196 z k b v4 v5 v7 → (m_A z) → (0 ≤ v7.toInt ∧ v7.toInt ≤ 10000) → m_W D q cI cJ cZ z H → va_S (m_qs q) s.heap H locs → lv_has ls 11 [(0, .ref (q 0)), (1, .int (k)), (3, .int (bb (b))), (4, .int (v4)), (5, .int (v5)), (7, .long (v7))] → W p l e (headSpec wsMo_settle { frames := 2, cells := 0, slots := 0, locals := 51 }).room s m ([.ref (q 0), .int (k), .int (g), .int (bb (b))] : List Value).toArray below meth c H locs 0 0 (MQ below (cQw none (m_W D q cI cJ cZ (fMo_settle z0 k g b)) (m_qs q)) ([.ref (q 0), .int (k), .int (g), .int (bb (b))] : List Value).toArray s 0 0 (m_qs q)) (F0 m 196 ls []) := by
    intro H locs ls z v4 v5 v7 hR hA h7 hP hS hl
    rw [fMo_settle_196.eq_1] at hR
    refine lv_iconst (v := 0) hx hb dMo_settle_196 (by decide) ?_
    exact hB197 H locs ls z false v4 v5 v7 hR (by first | assumption | omega) (by first | assumption | omega) hP hS (lv_sub hl [0, 1, 2, 3, 4, 5] rfl)
  have hB160 : ∀ (H : Heap) (locs : List Loc) (ls : Array Slot) (z : SM) (v4 : Int32) (v5 : Int32) (v7 : Int64), fMo_settle z0 k g b = fMo_settle_160 z k b v4 v5 v7 → (m_A z) → (0 ≤ v7.toInt ∧ v7.toInt ≤ 10000) → m_W D q cI cJ cZ z H → va_S (m_qs q) s.heap H locs → lv_has ls 11 [(0, .ref (q 0)), (1, .int (k)), (3, .int (bb (b))), (4, .int (v4)), (5, .int (v5)), (7, .long (v7))] → W p l e (headSpec wsMo_settle { frames := 2, cells := 0, slots := 0, locals := 51 }).room s m ([.ref (q 0), .int (k), .int (g), .int (bb (b))] : List Value).toArray below meth c H locs 0 0 (MQ below (cQw none (m_W D q cI cJ cZ (fMo_settle z0 k g b)) (m_qs q)) ([.ref (q 0), .int (k), .int (g), .int (bb (b))] : List Value).toArray s 0 0 (m_qs q)) (F0 m 160 ls []) := by
    intro H locs ls z v4 v5 v7 hR hA h7 hP hS hl
    rw [fMo_settle_160.eq_1] at hR
    refine lv_aload_n hx hb dMo_settle_160 rfl (lv_at hl 0 rfl) ?_
    refine mg0_following hx hb hts i0 hown hK hP w5 dMo_settle_161 ?_
    refine lv_iload_n hx hb dMo_settle_164 rfl (lv_at hl 1 rfl) ?_
    refine ml_foll hx hb hK hP hk dMo_settle_165 ?_
    refine lv_iconst (v := (-1)) hx hb dMo_settle_166 (by decide) ?_
    refine lv_icmp_ne hx hb dMo_settle_167 rfl (fun h167 => ?_) (fun h167 => ?_)
    · have hR := hR.trans (if_neg h167)
      exact hB196 H locs ls z v4 v5 v7 hR (by first | assumption | omega) (by first | assumption | omega) hP hS (lv_sub hl [0, 1, 2, 3, 4, 5] rfl)
    · have hR := hR.trans (if_pos h167)
      refine lv_iload_n hx hb dMo_settle_170 rfl (lv_at hl 1 rfl) ?_
      refine lv_iconst (v := 1) hx hb dMo_settle_171 (by decide) ?_
      refine lv_iadd hx hb dMo_settle_172 ?_
      refine lv_aload_n hx hb dMo_settle_173 rfl (lv_at hl 0 rfl) ?_
      refine mg0_lines hx hb hts i0 hown hK hP w3 dMo_settle_174 ?_
      refine lv_icmp_ge hx hb dMo_settle_177 rfl (fun h177 => ?_) (fun h177 => ?_)
      · have hR := hR.trans (if_pos h177)
        exact hB196 H locs ls z v4 v5 v7 hR (by first | assumption | omega) (by first | assumption | omega) hP hS (lv_sub hl [0, 1, 2, 3, 4, 5] rfl)
      · have hR := hR.trans (if_neg h177)
        refine lv_aload_n hx hb dMo_settle_180 rfl (lv_at hl 0 rfl) ?_
        refine mg0_location hx hb hts i0 hown hK hP w6 dMo_settle_181 ?_
        refine lv_iload_n hx hb dMo_settle_184 rfl (lv_at hl 1 rfl) ?_
        refine lv_iconst (v := 1) hx hb dMo_settle_185 (by decide) ?_
        refine lv_iadd hx hb dMo_settle_186 ?_
        refine ml_loc hx hb hK hP (nxl hk hA.1 h177) dMo_settle_187 ?_
        refine lv_iconst (v := (-1)) hx hb dMo_settle_188 (by decide) ?_
        refine lv_icmp_ne hx hb dMo_settle_189 rfl (fun h189 => ?_) (fun h189 => ?_)
        · have hR := hR.trans (if_neg h189)
          exact hB196 H locs ls z v4 v5 v7 hR (by first | assumption | omega) (by first | assumption | omega) hP hS (lv_sub hl [0, 1, 2, 3, 4, 5] rfl)
        · have hR := hR.trans (if_pos h189)
          refine lv_iconst (v := 1) hx hb dMo_settle_192 (by decide) ?_
          refine lv_goto hx hb dMo_settle_193 rfl ?_
          exact hB197 H locs ls z true v4 v5 v7 hR (by first | assumption | omega) (by first | assumption | omega) hP hS (lv_sub hl [0, 1, 2, 3, 4, 5] rfl)
  have hB146 : ∀ (H : Heap) (locs : List Loc) (ls : Array Slot) (z : SM) (s0 : Int32) (v4 : Int32) (v5 : Int32), fMo_settle z0 k g b = fMo_settle_146 z s0 k b v4 v5 → (m_A z) → (nn s0) → (nn v5) → m_W D q cI cJ cZ z H → va_S (m_qs q) s.heap H locs → lv_has ls 11 [(0, .ref (q 0)), (1, .int (k)), (3, .int (bb (b))), (4, .int (v4)), (5, .int (v5))] → W p l e (headSpec wsMo_settle { frames := 2, cells := 0, slots := 0, locals := 51 }).room s m ([.ref (q 0), .int (k), .int (g), .int (bb (b))] : List Value).toArray below meth c H locs 0 0 (MQ below (cQw none (m_W D q cI cJ cZ (fMo_settle z0 k g b)) (m_qs q)) ([.ref (q 0), .int (k), .int (g), .int (bb (b))] : List Value).toArray s 0 0 (m_qs q)) (F0 m 146 ls [.int (s0)]) := by
    intro H locs ls z s0 v4 v5 hR hA hs h5 hP hS hl
    rw [fMo_settle_146.eq_1] at hR
    refine lv_i2l hx hb dMo_settle_146 rfl ?_
    refine lv_lconst (v := 1) hx hb dMo_settle_147 (by decide) ?_
    refine lv_ladd hx hb dMo_settle_148 ?_
    refine lv_iload hx hb dMo_settle_149 (lv_at hl 3 rfl) ?_
    refine lv_iload hx hb dMo_settle_151 (lv_at hl 4 rfl) ?_
    refine cl_rd (W.runS (As := [.int (v4), .int (v5)]) (rest := [.long (s0.toInt64 + 1)]) ⟨hx, hb, hml, hown, hts⟩ (kMo_fixed l v4 v5) (va_cwS 2 hts (gS wm5_107 wm5_108 wm1_9 wm5_109) rfl rfl rfl (by decide +kernel) ⟨Nat.le_of_ble_eq_true rfl, Nat.le_of_ble_eq_true rfl⟩) (preT) rfl rfl hl.1 rfl (lv_room (Nat.le_of_ble_eq_true rfl)) dMo_settle_153 ⟨Nat.le_refl _, Nat.le_refl _⟩) ?_
    refine lv_i2l hx hb dMo_settle_156 rfl ?_
    refine lv_ladd hx hb dMo_settle_157 ?_
    refine lv_lstore (lv' := [(7, .long ((s0.toInt64 + 1) + ((fMo_fixed v4 v5).toInt64))), (0, .ref (q 0)), (1, .int (k)), (3, .int (bb (b))), (4, .int (v4)), (5, .int (v5))]) hx hb dMo_settle_158 hl (by decide) rfl (fun ls hl => ?_)
    exact hB160 H locs ls z v4 v5 ((s0.toInt64 + 1) + ((fMo_fixed v4 v5).toInt64)) hR (by first | assumption | omega) (lb2 hs h5) hP hS (lv_sub hl [1, 2, 3, 4, 5, 0] rfl)
  have hB128 : ∀ (H : Heap) (locs : List Loc) (ls : Array Slot) (z : SM) (s0 : Bool) (v4 : Int32) (v5 : Int32), fMo_settle z0 k g b = fMo_settle_128 z s0 k b v4 v5 → (m_A z) → (nn (m_ats z k.toNatClampNeg)) → (nn v5) → m_W D q cI cJ cZ z H → va_S (m_qs q) s.heap H locs → lv_has ls 11 [(0, .ref (q 0)), (1, .int (k)), (3, .int (bb (b))), (4, .int (v4)), (5, .int (v5))] → W p l e (headSpec wsMo_settle { frames := 2, cells := 0, slots := 0, locals := 51 }).room s m ([.ref (q 0), .int (k), .int (g), .int (bb (b))] : List Value).toArray below meth c H locs 0 0 (MQ below (cQw none (m_W D q cI cJ cZ (fMo_settle z0 k g b)) (m_qs q)) ([.ref (q 0), .int (k), .int (g), .int (bb (b))] : List Value).toArray s 0 0 (m_qs q)) (F0 m 128 ls [.int (bb (s0))]) := by
    intro H locs ls z s0 v4 v5 hR hA ha9 h5 hP hS hl
    rw [fMo_settle_128.eq_1] at hR
    refine lv_istore (lv' := [(6, .int (bb (s0))), (0, .ref (q 0)), (1, .int (k)), (3, .int (bb (b))), (4, .int (v4)), (5, .int (v5))]) hx hb dMo_settle_128 hl (by decide) rfl (fun ls hl => ?_)
    refine lv_iload hx hb dMo_settle_130 (lv_at hl 0 rfl) ?_
    refine wz_ifeq hx hb dMo_settle_132 rfl (fun h132 => ?_) (fun h132 => ?_)
    · have hR := hR.trans (if_neg h132)
      refine lv_aload_n hx hb dMo_settle_140 rfl (lv_at hl 1 rfl) ?_
      refine mg0_at hx hb hts i0 hown hK hP w4 dMo_settle_141 ?_
      refine lv_iload_n hx hb dMo_settle_144 rfl (lv_at hl 2 rfl) ?_
      refine ml_ats hx hb hK hP hk dMo_settle_145 ?_
      exact hB146 H locs ls z (m_ats z k.toNatClampNeg) v4 v5 hR (by first | assumption | omega) ha9 (by first | assumption | omega) hP hS (lv_sub hl [1, 2, 3, 4, 5] rfl)
    · have hR := hR.trans (if_pos h132)
      refine lv_iload hx hb dMo_settle_135 (lv_at hl 5 rfl) ?_
      refine lv_goto hx hb dMo_settle_137 rfl ?_
      exact hB146 H locs ls z v5 v4 v5 hR (by first | assumption | omega) h5 (by first | assumption | omega) hP hS (lv_sub hl [1, 2, 3, 4, 5] rfl)
  have hB123 : ∀ (H : Heap) (locs : List Loc) (ls : Array Slot) (z : SM) (v4 : Int32) (v5 : Int32), fMo_settle z0 k g b = fMo_settle_123 z k b v4 v5 → (m_A z) → (nn (m_ats z k.toNatClampNeg)) → (nn v5) → m_W D q cI cJ cZ z H → va_S (m_qs q) s.heap H locs → lv_has ls 11 [(0, .ref (q 0)), (1, .int (k)), (3, .int (bb (b))), (4, .int (v4)), (5, .int (v5))] → W p l e (headSpec wsMo_settle { frames := 2, cells := 0, slots := 0, locals := 51 }).room s m ([.ref (q 0), .int (k), .int (g), .int (bb (b))] : List Value).toArray below meth c H locs 0 0 (MQ below (cQw none (m_W D q cI cJ cZ (fMo_settle z0 k g b)) (m_qs q)) ([.ref (q 0), .int (k), .int (g), .int (bb (b))] : List Value).toArray s 0 0 (m_qs q)) (F0 m 123 ls []) := by
    intro H locs ls z v4 v5 hR hA ha9 h5 hP hS hl
    rw [fMo_settle_123.eq_1] at hR
    refine lv_iconst (v := 1) hx hb dMo_settle_123 (by decide) ?_
    refine lv_goto hx hb dMo_settle_124 rfl ?_
    exact hB128 H locs ls z true v4 v5 hR (by first | assumption | omega) (by first | assumption | omega) h5 hP hS (lv_sub hl [0, 1, 2, 3, 4] rfl)
  have hB105 : ∀ (H : Heap) (locs : List Loc) (ls : Array Slot) (z : SM) (s0 : Int32) (v4 : Int32), fMo_settle z0 k g b = fMo_settle_105 z s0 k b v4 → (m_A z) → (nn (m_ats z k.toNatClampNeg)) → (nn s0) → m_W D q cI cJ cZ z H → va_S (m_qs q) s.heap H locs → lv_has ls 11 [(0, .ref (q 0)), (1, .int (k)), (3, .int (bb (b))), (4, .int (v4))] → W p l e (headSpec wsMo_settle { frames := 2, cells := 0, slots := 0, locals := 51 }).room s m ([.ref (q 0), .int (k), .int (g), .int (bb (b))] : List Value).toArray below meth c H locs 0 0 (MQ below (cQw none (m_W D q cI cJ cZ (fMo_settle z0 k g b)) (m_qs q)) ([.ref (q 0), .int (k), .int (g), .int (bb (b))] : List Value).toArray s 0 0 (m_qs q)) (F0 m 105 ls [.int (s0)]) := by
    intro H locs ls z s0 v4 hR hA ha9 hd hP hS hl
    rw [fMo_settle_105.eq_1] at hR
    refine lv_istore (lv' := [(5, .int (s0)), (0, .ref (q 0)), (1, .int (k)), (3, .int (bb (b))), (4, .int (v4))]) hx hb dMo_settle_105 hl (by decide) rfl (fun ls hl => ?_)
    refine lv_iload hx hb dMo_settle_107 (lv_at hl 4 rfl) ?_
    refine cl_rd (W.runS (As := [.int (v4)]) (rest := []) ⟨hx, hb, hml, hown, hts⟩ (kMo_reads l v4) (va_cwS 1 hts (gS wm5_90 wm5_91 wm1_9 wm5_92) rfl rfl rfl (by decide +kernel) ⟨Nat.le_of_ble_eq_true rfl, Nat.le_of_ble_eq_true rfl⟩) (preT) rfl rfl hl.1 rfl (lv_room (Nat.le_of_ble_eq_true rfl)) dMo_settle_109 ⟨Nat.le_refl _, Nat.le_refl _⟩) ?_
    refine wz_ifne hx hb dMo_settle_112 rfl (fun h112 => ?_) (fun h112 => ?_)
    · have hR := hR.trans (if_pos h112)
      exact hB123 H locs ls z v4 s0 hR (by first | assumption | omega) (by first | assumption | omega) hd hP hS (lv_sub hl [1, 2, 3, 4, 0] rfl)
    · have hR := hR.trans (if_neg h112)
      refine lv_iload hx hb dMo_settle_115 (lv_at hl 4 rfl) ?_
      refine cl_rd (W.runS (As := [.int (v4)]) (rest := []) ⟨hx, hb, hml, hown, hts⟩ (kMo_writes l v4) (va_cwS 1 hts (gS wm5_93 wm5_94 wm1_9 wm5_95) rfl rfl rfl (by decide +kernel) ⟨Nat.le_of_ble_eq_true rfl, Nat.le_of_ble_eq_true rfl⟩) (preT) rfl rfl hl.1 rfl (lv_room (Nat.le_of_ble_eq_true rfl)) dMo_settle_117 ⟨Nat.le_refl _, Nat.le_refl _⟩) ?_
      refine wz_ifeq hx hb dMo_settle_120 rfl (fun h120 => ?_) (fun h120 => ?_)
      · have hR := hR.trans (if_neg h120)
        refine lv_iconst (v := 0) hx hb dMo_settle_127 (by decide) ?_
        exact hB128 H locs ls z false v4 s0 hR (by first | assumption | omega) (by first | assumption | omega) hd hP hS (lv_sub hl [1, 2, 3, 4, 0] rfl)
      · have hR := hR.trans (if_pos h120)
        exact hB123 H locs ls z v4 s0 hR (by first | assumption | omega) (by first | assumption | omega) hd hP hS (lv_sub hl [1, 2, 3, 4, 0] rfl)
  have hB54 : ∀ (H : Heap) (locs : List Loc) (ls : Array Slot) (z : SM) (v4 : Int32), fMo_settle z0 k g b = fMo_settle_54 z k b v4 → (m_A z) → (nn (m_ats z k.toNatClampNeg)) → (v4 = m_ops z k.toNatClampNeg) → m_W D q cI cJ cZ z H → va_S (m_qs q) s.heap H locs → lv_has ls 11 [(0, .ref (q 0)), (1, .int (k)), (3, .int (bb (b))), (4, .int (v4))] → W p l e (headSpec wsMo_settle { frames := 2, cells := 0, slots := 0, locals := 51 }).room s m ([.ref (q 0), .int (k), .int (g), .int (bb (b))] : List Value).toArray below meth c H locs 0 0 (MQ below (cQw none (m_W D q cI cJ cZ (fMo_settle z0 k g b)) (m_qs q)) ([.ref (q 0), .int (k), .int (g), .int (bb (b))] : List Value).toArray s 0 0 (m_qs q)) (F0 m 54 ls []) := by
    intro H locs ls z v4 hR hA ha9 h4 hP hS hl
    rw [fMo_settle_54.eq_1] at hR
    refine lv_aload_n hx hb dMo_settle_54 rfl (lv_at hl 0 rfl) ?_
    refine mg0_data hx hb hts i0 hown hK hP w7 dMo_settle_55 ?_
    refine lv_iload_n hx hb dMo_settle_58 rfl (lv_at hl 1 rfl) ?_
    refine ml_dat hx hb hK hP hk dMo_settle_59 ?_
    refine lv_iconst (v := (-1)) hx hb dMo_settle_60 (by decide) ?_
    refine lv_icmp_ne hx hb dMo_settle_61 rfl (fun h61 => ?_) (fun h61 => ?_)
    · have hR := hR.trans (if_neg h61)
      refine lv_iload hx hb dMo_settle_68 (lv_at hl 3 rfl) ?_
      refine cl_rd (W.runS (As := [.int (v4)]) (rest := []) ⟨hx, hb, hml, hown, hts⟩ (kMo_shifts l v4) (va_cwS 1 hts (gS wm5_96 wm5_97 wm1_9 wm5_98) rfl rfl rfl (by decide +kernel) ⟨Nat.le_of_ble_eq_true rfl, Nat.le_of_ble_eq_true rfl⟩) (preT) rfl rfl hl.1 rfl (lv_room (Nat.le_of_ble_eq_true rfl)) dMo_settle_70 ⟨Nat.le_refl _, Nat.le_refl _⟩) ?_
      refine wz_ifeq hx hb dMo_settle_73 rfl (fun h73 => ?_) (fun h73 => ?_)
      · have hR := hR.trans (if_neg h73)
        refine lv_aload_n hx hb dMo_settle_85 rfl (lv_at hl 0 rfl) ?_
        refine lv_aload_n hx hb dMo_settle_86 rfl (lv_at hl 0 rfl) ?_
        refine mg0_data hx hb hts i0 hown hK hP w7 dMo_settle_87 ?_
        refine lv_iload_n hx hb dMo_settle_90 rfl (lv_at hl 1 rfl) ?_
        refine ml_dat hx hb hK hP hk dMo_settle_91 ?_
        refine lv_iload_n hx hb dMo_settle_92 rfl (lv_at hl 2 rfl) ?_
        refine lv_aload_n hx hb dMo_settle_93 rfl (lv_at hl 0 rfl) ?_
        refine mg0_at hx hb hts i0 hown hK hP w4 dMo_settle_94 ?_
        refine lv_iload_n hx hb dMo_settle_97 rfl (lv_at hl 1 rfl) ?_
        refine ml_ats hx hb hK hP hk dMo_settle_98 ?_
        refine lv_i2l hx hb dMo_settle_99 rfl ?_
        refine lv_lconst (v := 1) hx hb dMo_settle_100 (by decide) ?_
        refine lv_ladd hx hb dMo_settle_101 ?_
        refine cl_wr (W.runV (As := [.int ((m_dat z k.toNatClampNeg)), .int (bb (b)), .long ((((m_ats z k.toNatClampNeg).toInt64) + 1))]) (rest := []) ⟨hx, hb, hml, hown, hts⟩ (kMo_placeOf l D q cI cJ cZ hq z (m_dat z k.toNatClampNeg) b (((m_ats z k.toNatClampNeg).toInt64) + 1) (hA.2.2.2.1 _ (ix_lt hk)).1 (lb1 ha9)) (cwV 3 hts (gV wm5_182 wm5_184 ws4_1 wm1_9 wm5_185) rfl rfl rfl (by decide +kernel) ⟨Nat.le_of_ble_eq_true rfl, Nat.le_of_ble_eq_true rfl⟩) (m_preV0 hK hP) rfl rfl hl.1 rfl (lv_room (Nat.le_of_ble_eq_true rfl)) dMo_settle_102 ⟨Nat.le_refl _, Nat.le_refl _⟩) hS (fun _ h => h) (fun _ h => h) (fun H locs hP hS => ?_)
        exact hB105 H locs ls ((fMo_placeOf z (m_dat z k.toNatClampNeg) b (((m_ats z k.toNatClampNeg).toInt64) + 1)).2) ((fMo_placeOf z (m_dat z k.toNatClampNeg) b (((m_ats z k.toNatClampNeg).toInt64) + 1)).1) v4 hR (mA_po hA (hA.2.2.2.1 _ (ix_lt hk)).1 (lb1 ha9)) (po_at hA (hA.2.2.2.1 _ (ix_lt hk)).1 (lb1 ha9) ha9) ((po3 _ _ (hA.2.2.2.1 _ (ix_lt hk)).1 (lb1 ha9) hA.2.2.2.2.2).1 h61) hP hS (lv_sub hl [0, 1, 2, 3] rfl)
      · have hR := hR.trans (if_pos h73)
        refine lv_aload_n hx hb dMo_settle_76 rfl (lv_at hl 0 rfl) ?_
        refine mg0_data hx hb hts i0 hown hK hP w7 dMo_settle_77 ?_
        refine lv_iload_n hx hb dMo_settle_80 rfl (lv_at hl 1 rfl) ?_
        refine ml_dat hx hb hK hP hk dMo_settle_81 ?_
        refine lv_goto hx hb dMo_settle_82 rfl ?_
        exact hB105 H locs ls z (m_dat z k.toNatClampNeg) v4 hR hA ha9 (sh_nn (ix_lt hk) hA h4 h73 h61) hP hS (lv_sub hl [0, 1, 2, 3] rfl)
    · have hR := hR.trans (if_pos h61)
      refine lv_iconst (v := 0) hx hb dMo_settle_64 (by decide) ?_
      refine lv_goto hx hb dMo_settle_65 rfl ?_
      exact hB105 H locs ls z 0 v4 hR hA ha9 nn_0 hP hS (lv_sub hl [0, 1, 2, 3] rfl)
  have hB53 : ∀ (H : Heap) (locs : List Loc) (ls : Array Slot) (z : SM) (s1 : Int32) (s2 : Int32) (v4 : Int32), fMo_settle z0 k g b = fMo_settle_53 z s1 s2 k b v4 → (m_A z) → (nn s2) → (v4 = m_ops z k.toNatClampNeg) → (s1 = k) → m_W D q cI cJ cZ z H → va_S (m_qs q) s.heap H locs → lv_has ls 11 [(0, .ref (q 0)), (1, .int (k)), (3, .int (bb (b))), (4, .int (v4))] → W p l e (headSpec wsMo_settle { frames := 2, cells := 0, slots := 0, locals := 51 }).room s m ([.ref (q 0), .int (k), .int (g), .int (bb (b))] : List Value).toArray below meth c H locs 0 0 (MQ below (cQw none (m_W D q cI cJ cZ (fMo_settle z0 k g b)) (m_qs q)) ([.ref (q 0), .int (k), .int (g), .int (bb (b))] : List Value).toArray s 0 0 (m_qs q)) (F0 m 53 ls [.int (s2), .int (s1), .ref (q 13)]) := by
    intro H locs ls z s1 s2 v4 hR hA hv h4 hs1 hP hS hl
    rw [fMo_settle_53.eq_1] at hR
    refine ms_ats s2 hq hS hx hb hK hP (by rw [hs1]; exact hk) dMo_settle_53 (fun H locs hP hS => ?_)
    exact hB54 H locs ls (m_ats_s z (upd (m_ats z) s1.toNatClampNeg s2)) v4 hR (mA_at hA (nn_pl hv)) (by rw [hs1]; exact at_nn hv) h4 hP hS (lv_sub hl [0, 1, 2, 3] rfl)
  have hR := fMo_settle.eq_1 z0 k g b
  refine lv_aload_n hx hb dMo_settle_0 rfl (lv_at hl 0 rfl) ?_
  refine mg0_operation hx hb hts i0 hown hK hP w8 dMo_settle_1 ?_
  refine lv_iload_n hx hb dMo_settle_4 rfl (lv_at hl 1 rfl) ?_
  refine ml_ops hx hb hK hP hk dMo_settle_5 ?_
  refine lv_istore (lv' := [(4, .int (m_ops z0 k.toNatClampNeg)), (0, .ref (q 0)), (1, .int (k)), (2, .int (g)), (3, .int (bb (b)))]) hx hb dMo_settle_6 hl (by decide) rfl (fun ls hl => ?_)
  refine lv_aload_n hx hb dMo_settle_8 rfl (lv_at hl 1 rfl) ?_
  refine mg0_at hx hb hts i0 hown hK hP w4 dMo_settle_9 ?_
  refine lv_iload_n hx hb dMo_settle_12 rfl (lv_at hl 2 rfl) ?_
  refine lv_iload_n hx hb dMo_settle_13 rfl (lv_at hl 3 rfl) ?_
  refine lv_iconst (v := (-1)) hx hb dMo_settle_14 (by decide) ?_
  refine lv_icmp_eq hx hb dMo_settle_15 rfl (fun h15 => ?_) (fun h15 => ?_)
  · have hR := hR.trans (if_pos h15)
    refine lv_aload_n hx hb dMo_settle_22 rfl (lv_at hl 1 rfl) ?_
    refine mg0_location hx hb hts i0 hown hK hP w6 dMo_settle_23 ?_
    refine lv_iload_n hx hb dMo_settle_26 rfl (lv_at hl 2 rfl) ?_
    refine ml_loc hx hb hK hP hk dMo_settle_27 ?_
    refine lv_iconst (v := (-1)) hx hb dMo_settle_28 (by decide) ?_
    refine lv_icmp_ne hx hb dMo_settle_29 rfl (fun h29 => ?_) (fun h29 => ?_)
    · have hR := hR.trans (if_neg h29)
      refine lv_aload_n hx hb dMo_settle_41 rfl (lv_at hl 1 rfl) ?_
      refine lv_aload_n hx hb dMo_settle_42 rfl (lv_at hl 1 rfl) ?_
      refine mg0_location hx hb hts i0 hown hK hP w6 dMo_settle_43 ?_
      refine lv_iload_n hx hb dMo_settle_46 rfl (lv_at hl 2 rfl) ?_
      refine ml_loc hx hb hK hP hk dMo_settle_47 ?_
      refine lv_iload_n hx hb dMo_settle_48 rfl (lv_at hl 4 rfl) ?_
      refine lv_lconst (v := 0) hx hb dMo_settle_49 (by decide) ?_
      refine cl_wr (W.runV (As := [.int ((m_loc z0 k.toNatClampNeg)), .int (bb (b)), .long (0)]) (rest := [.int (k), .ref (q 13)]) ⟨hx, hb, hml, hown, hts⟩ (kMo_placeOf l D q cI cJ cZ hq z0 (m_loc z0 k.toNatClampNeg) b 0 (hA.2.1 _ (ix_lt hk)) b00L) (cwV 3 hts (gV wm5_182 wm5_184 ws4_1 wm1_9 wm5_185) rfl rfl rfl (by decide +kernel) ⟨Nat.le_of_ble_eq_true rfl, Nat.le_of_ble_eq_true rfl⟩) (m_preV0 hK hP) rfl rfl hl.1 rfl (lv_room (Nat.le_of_ble_eq_true rfl)) dMo_settle_50 ⟨Nat.le_refl _, Nat.le_refl _⟩) hS (fun _ h => h) (fun _ h => h) (fun H locs hP hS => ?_)
      exact hB53 H locs ls ((fMo_placeOf z0 (m_loc z0 k.toNatClampNeg) b 0).2) k ((fMo_placeOf z0 (m_loc z0 k.toNatClampNeg) b 0).1) (m_ops z0 k.toNatClampNeg) hR (mA_po hA (hA.2.1 _ (ix_lt hk)) b00L) ((po3 _ _ (hA.2.1 _ (ix_lt hk)) b00L hA.2.2.2.2.2).1 h29) (po_ops _ hA (hA.2.1 _ (ix_lt hk)) b00L _) rfl hP hS (lv_sub hl [1, 2, 4, 0] rfl)
    · have hR := hR.trans (if_pos h29)
      refine lv_aload_n hx hb dMo_settle_32 rfl (lv_at hl 1 rfl) ?_
      refine lv_iload_n hx hb dMo_settle_33 rfl (lv_at hl 4 rfl) ?_
      refine lv_lconst (v := 0) hx hb dMo_settle_34 (by decide) ?_
      refine cl_wr (W.runV (As := [.int (bb (b)), .long (0)]) (rest := [.int (k), .ref (q 13)]) ⟨hx, hb, hml, hown, hts⟩ (kMo_take l D q cI cJ cZ hq z0 b 0 b00L) (cwV 2 hts (gV wm5_178 wm5_180 ws4_0 wm1_9 wm5_181) rfl rfl rfl (by decide +kernel) ⟨Nat.le_of_ble_eq_true rfl, Nat.le_of_ble_eq_true rfl⟩) (m_preV0 hK hP) rfl rfl hl.1 rfl (lv_room (Nat.le_of_ble_eq_true rfl)) dMo_settle_35 ⟨Nat.le_refl _, Nat.le_refl _⟩) hS (fun _ h => h) (fun _ h => h) (fun H locs hP hS => ?_)
      refine lv_goto hx hb dMo_settle_38 rfl ?_
      exact hB53 H locs ls ((fMo_take z0 b 0).2) k ((fMo_take z0 b 0).1) (m_ops z0 k.toNatClampNeg) hR (mA_tk hA b00L) (tk3 _ _ b00L).1 (tk_ops _ _ b00L _) rfl hP hS (lv_sub hl [1, 2, 4, 0] rfl)
  · have hR := hR.trans (if_neg h15)
    refine lv_iload_n hx hb dMo_settle_18 rfl (lv_at hl 3 rfl) ?_
    refine lv_goto hx hb dMo_settle_19 rfl ?_
    exact hB53 s.heap [] ls z0 k g (m_ops z0 k.toNatClampNeg) hR hA (nn_of hg h15) rfl rfl hP hS (lv_sub hl [1, 2, 4, 0] rfl)
