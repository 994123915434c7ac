theorem arm_0 {p : Program} {l : Launch} {e : Env} {s : State} {m : MethodId} {below : List Frame} {meth : Method} {c : Code} {b L : Nat} {xs : Nat → Int32} {D : va_G} {q r : Nat → Nat} {o : Nat} {cI cJ cZ : ClassId} {H : Heap} {locs : List Loc} {cells slots n : Nat} {ls : Array Slot} {z : SC} {mm : SM} {f : Nat → Int64} {T : Int} (E : LE p l s m meth c b L xs D q r o cI cJ cZ) (hS : Lz s D q r o cI cJ cZ H locs z mm f T) (hT : T + 120000 ≤ 4000000000000000000) (hc : cells + 1 ≤ 1082) (hsl : slots + 6 ≤ 14493) (hn : n + 5 ≤ L) (hl : lv_has ls 8 [(0, .ref b), (1, .ref (q 0)), (2, .ref (r 0)), (3, .ref o), (4, .int (nI n))]) (kk : KA p l e s m below meth c b D q r o cI cJ cZ n (cells + 1) (slots + 6) (T + 120000)) : W p l e room_1 s m #[Value.ref b] below meth c H locs cells slots (lw_Z below #[Value.ref b] s) (F0 m 124 ls []) := by
  obtain ⟨hx, hb, hr, hml, hown, hts, hX, hbl, hlocks, hK, hz, hnc, hfl, hqi, hri, hqA, hrA, hoA, hqr, hoq, hor, hL⟩ := E
  obtain ⟨hP, hO, hM, hS, hF⟩ := hS
  have hbA : ¬ lA s b := fun h => Nat.not_le_of_lt hbl h
  have hzU := xz_at hz hS
  refine lv_aload_n hx hb dL_124 rfl (lv_at hl 1 rfl) ?_
  refine sc_row (j := 1) (lv := []) hx hb hX hbl hbA hS (by omega) hL (lv_at hl 0 rfl) (lv_at hl 4 rfl) dL_125 dL_126 dL_128 dL_129 dL_130 (by decide) ?_
  refine sc_row (j := 2) (lv := []) hx hb hX hbl hbA hS (by omega) hL (lv_at hl 0 rfl) (lv_at hl 4 rfl) dL_131 dL_132 dL_134 dL_135 dL_136 (by decide) ?_
  refine lv_i2l hx hb dL_137 rfl ?_
  refine lv_bipush (v := 32) hx hb dL_138 (by decide) ?_
  refine lv_lshl hx hb dL_140 rfl ?_
  refine sc_row (j := 3) (lv := []) hx hb hX hbl hbA hS (by omega) hL (lv_at hl 0 rfl) (lv_at hl 4 rfl) dL_141 dL_142 dL_144 dL_145 dL_146 (by decide) ?_
  refine lv_i2l hx hb dL_147 rfl ?_
  refine lv_ldc2 (v := 4294967295) hx hb hown (hts _ (List.mem_cons_of_mem _ wm5_223)) dL_148 ?_
  refine lv_land hx hb dL_151 ?_
  refine lv_lor hx hb dL_152 ?_
  refine sc_row (j := 4) (lv := []) hx hb hX hbl hbA hS (by omega) hL (lv_at hl 0 rfl) (lv_at hl 4 rfl) dL_153 dL_154 dL_156 dL_157 dL_158 (by decide) ?_
  refine nz_row hx hb dL_159 dL_162 dL_163 dL_166 ?_
  have hR := word_R hF f (xs (n + 1)) ((((xs (n + 2)).toInt64) <<< ((32 : Int32).toInt64 &&& 63)) ||| (((xs (n + 3)).toInt64) &&& (4294967295))) (nz (xs (n + 4)))
  refine hp_go (runSW (As := [.ref ((q 0)), .int (xs (n + 1)), .long ((((xs (n + 2)).toInt64) <<< ((32 : Int32).toInt64 &&& 63)) ||| (((xs (n + 3)).toInt64) &&& (4294967295))), .int (bb (nz (xs (n + 4))))]) (rest := []) (n := 4) ⟨hx, hb, hml, hown, hts⟩ (kLa_word l D q cI cJ cZ hqi hfl o hoq z f (xs (n + 1)) ((((xs (n + 2)).toInt64) <<< ((32 : Int32).toInt64 &&& 63)) ||| (((xs (n + 3)).toInt64) &&& (4294967295))) (nz (xs (n + 4)))) rfl rfl ⟨Nat.le_of_ble_eq_true rfl, Nat.le_of_ble_eq_true rfl⟩ rfl cwLa_word (fun w h => hts w (List.mem_cons_of_mem _ h)) (hts _ (List.mem_cons_of_mem _ wm1_0)) (hts _ (List.mem_cons_of_mem _ wm2_0)) (hts _ (List.mem_cons_of_mem _ wm1_239)) (by decide +kernel) (hp_pre hK hP hzU hnc hO) rfl rfl hl.1 rfl (lv_room (Nat.le_of_ble_eq_true rfl)) dL_167 ⟨hc, hsl⟩) hS (fun x h => h.elim (hqA x) (fun e => e ▸ hoA)) hM (fun x h h2 => h2.elim (fun h3 => hqr x h3 h) (fun e => hor (e ▸ h))) (fun H locs hP hO hM hS => ?_)
  generalize gLa_word z f (xs (n + 1)) ((((xs (n + 2)).toInt64) <<< ((32 : Int32).toInt64 &&& 63)) ||| (((xs (n + 3)).toInt64) &&& (4294967295))) (nz (xs (n + 4))) = g at hR hP hO ⊢
  refine lv_istore (lv' := [(5, .int (g.1)), (0, .ref b), (1, .ref (q 0)), (2, .ref (r 0)), (3, .ref o), (4, .int (nI n))]) hx hb dL_170 hl (by decide) rfl (fun ls hl => ?_)
  refine lv_aload_n hx hb dL_172 rfl (lv_at hl 3 rfl) ?_
  refine sc_row (j := 1) (lv := []) hx hb hX hbl hbA hS (by omega) hL (lv_at hl 1 rfl) (lv_at hl 5 rfl) dL_173 dL_174 dL_176 dL_177 dL_178 (by decide) ?_
  refine sc_row (j := 2) (lv := []) hx hb hX hbl hbA hS (by omega) hL (lv_at hl 1 rfl) (lv_at hl 5 rfl) dL_179 dL_180 dL_182 dL_183 dL_184 (by decide) ?_
  refine lv_i2l hx hb dL_185 rfl ?_
  refine lv_bipush (v := 32) hx hb dL_186 (by decide) ?_
  refine lv_lshl hx hb dL_188 rfl ?_
  refine sc_row (j := 3) (lv := []) hx hb hX hbl hbA hS (by omega) hL (lv_at hl 1 rfl) (lv_at hl 5 rfl) dL_189 dL_190 dL_192 dL_193 dL_194 (by decide) ?_
  refine lv_i2l hx hb dL_195 rfl ?_
  refine lv_ldc2 (v := 4294967295) hx hb hown (hts _ (List.mem_cons_of_mem _ wm5_223)) dL_196 ?_
  refine lv_land hx hb dL_199 ?_
  refine lv_lor hx hb dL_200 ?_
  refine sc_row (j := 4) (lv := []) hx hb hX hbl hbA hS (by omega) hL (lv_at hl 1 rfl) (lv_at hl 5 rfl) dL_201 dL_202 dL_204 dL_205 dL_206 (by decide) ?_
  refine nz_row hx hb dL_207 dL_210 dL_211 dL_214 ?_
  refine mo_go (W.runV (As := [.int (xs (n + 1)), .long ((((xs (n + 2)).toInt64) <<< ((32 : Int32).toInt64 &&& 63)) ||| (((xs (n + 3)).toInt64) &&& (4294967295))), .int (bb (nz (xs (n + 4))))]) (rest := []) ⟨hx, hb, hml, hown, hts⟩ (kMo_word l D r cI cJ cZ hri mm (xs (n + 1)) ((((xs (n + 2)).toInt64) <<< ((32 : Int32).toInt64 &&& 63)) ||| (((xs (n + 3)).toInt64) &&& (4294967295))) (nz (xs (n + 4)))) (cwV 3 hts (gV wm5_37 wm5_38 wm5_39 wm1_9 wm5_40) rfl rfl rfl (by decide +kernel) ⟨Nat.le_of_ble_eq_true rfl, Nat.le_of_ble_eq_true rfl⟩) (m_preV0 hK hM) rfl rfl hl.1 rfl (lv_room (Nat.le_of_ble_eq_true rfl)) dL_215 ⟨hc, hsl⟩) hS hrA hP hO hqr hor (fun H locs hP hO hM hS => ?_)
  generalize fMo_word mm (xs (n + 1)) ((((xs (n + 2)).toInt64) <<< ((32 : Int32).toInt64 &&& 63)) ||| (((xs (n + 3)).toInt64) &&& (4294967295))) (nz (xs (n + 4))) = mm1 at hR hM ⊢
  refine lv_aload_n hx hb dL_218 rfl (lv_at hl 3 rfl) ?_
  refine cl_rd (W.runV (As := []) (rest := []) ⟨hx, hb, hml, hown, hts⟩ (kMo_thrown l D r cI cJ cZ hri mm1) (cwV 0 hts (gV wm5_33 wm5_34 wm5_35 wm1_9 wm5_36) rfl rfl rfl (by decide +kernel) ⟨Nat.le_of_ble_eq_true rfl, Nat.le_of_ble_eq_true rfl⟩) (m_preV0 hK hM) rfl rfl hl.1 rfl (lv_room (Nat.le_of_ble_eq_true rfl)) dL_219 ⟨hc, hsl⟩) ?_
  refine lv_iload hx hb dL_222 (lv_at hl 0 rfl) ?_
  refine lv_icmp_eq (tgt := 229) hx hb dL_224 rfl (fun _ => ?_) (fun h => absurd hR.2 h)
  refine lv_goto (tgt := 1075) hx hb dL_229 rfl ?_
  exact kk _ _ _ _ _ _ ⟨hP, hO, hM, hS, RF_le hR.1 (by omega)⟩ (lv_sub hl [1, 2, 3, 4, 5] rfl)
theorem arm_1 {p : Program} {l : Launch} {e : Env} {s : State} {m : MethodId} {below : List Frame} {meth : Method} {c : Code} {b L : Nat} {xs : Nat → Int32} {D : va_G} {q r : Nat → Nat} {o : Nat} {cI cJ cZ : ClassId} {H : Heap} {locs : List Loc} {cells slots n : Nat} {ls : Array Slot} {z : SC} {mm : SM} {f : Nat → Int64} {T : Int} (E : LE p l s m meth c b L xs D q r o cI cJ cZ) (hS : Lz s D q r o cI cJ cZ H locs z mm f T) (hT : T + 120000 ≤ 4000000000000000000) (hc : cells + 1 ≤ 1082) (hsl : slots + 6 ≤ 14493) (hn : n + 5 ≤ L) (hl : lv_has ls 8 [(0, .ref b), (1, .ref (q 0)), (2, .ref (r 0)), (3, .ref o), (4, .int (nI n))]) (kk : KA p l e s m below meth c b D q r o cI cJ cZ n (cells + 1) (slots + 6) (T + 120000)) : W p l e room_1 s m #[Value.ref b] below meth c H locs cells slots (lw_Z below #[Value.ref b] s) (F0 m 232 ls []) := by
  obtain ⟨hx, hb, hr, hml, hown, hts, hX, hbl, hlocks, hK, hz, hnc, hfl, hqi, hri, hqA, hrA, hoA, hqr, hoq, hor, hL⟩ := E
  obtain ⟨hP, hO, hM, hS, hF⟩ := hS
  have hbA : ¬ lA s b := fun h => Nat.not_le_of_lt hbl h
  have hzU := xz_at hz hS
  refine lv_aload_n hx hb dL_232 rfl (lv_at hl 1 rfl) ?_
  refine sc_row (j := 1) (lv := []) hx hb hX hbl hbA hS (by omega) hL (lv_at hl 0 rfl) (lv_at hl 4 rfl) dL_233 dL_234 dL_236 dL_237 dL_238 (by decide) ?_
  refine sc_row (j := 2) (lv := []) hx hb hX hbl hbA hS (by omega) hL (lv_at hl 0 rfl) (lv_at hl 4 rfl) dL_239 dL_240 dL_242 dL_243 dL_244 (by decide) ?_
  refine sc_row (j := 3) (lv := []) hx hb hX hbl hbA hS (by omega) hL (lv_at hl 0 rfl) (lv_at hl 4 rfl) dL_245 dL_246 dL_248 dL_249 dL_250 (by decide) ?_
  refine lv_aload_n hx hb dL_251 rfl (lv_at hl 3 rfl) ?_
  have hR := flip_R hF f (xs (n + 1)) (xs (n + 2)) (xs (n + 3))
  refine hp_go (runSW (As := [.ref ((q 0)), .int (xs (n + 1)), .int (xs (n + 2)), .int (xs (n + 3)), .ref (o)]) (rest := []) (n := 5) ⟨hx, hb, hml, hown, hts⟩ (kLa_flip l D q cI cJ cZ hqi hfl o hoq z f (xs (n + 1)) (xs (n + 2)) (xs (n + 3))) rfl rfl ⟨Nat.le_of_ble_eq_true rfl, Nat.le_of_ble_eq_true rfl⟩ rfl cwLa_flip (fun w h => hts w (List.mem_cons_of_mem _ h)) (hts _ (List.mem_cons_of_mem _ wm1_0)) (hts _ (List.mem_cons_of_mem _ wm2_106)) (hts _ (List.mem_cons_of_mem _ wm2_105)) (by decide +kernel) (hp_pre hK hP hzU hnc hO) rfl rfl hl.1 rfl (lv_room (Nat.le_of_ble_eq_true rfl)) dL_252 ⟨hc, hsl⟩) hS (fun x h => h.elim (hqA x) (fun e => e ▸ hoA)) hM (fun x h h2 => h2.elim (fun h3 => hqr x h3 h) (fun e => hor (e ▸ h))) (fun H locs hP hO hM hS => ?_)
  generalize gLa_flip z f (xs (n + 1)) (xs (n + 2)) (xs (n + 3)) = g at hR hP hO ⊢
  refine lv_istore (lv' := [(5, .int (g.1)), (0, .ref b), (1, .ref (q 0)), (2, .ref (r 0)), (3, .ref o), (4, .int (nI n))]) hx hb dL_255 hl (by decide) rfl (fun ls hl => ?_)
  refine lv_aload_n hx hb dL_257 rfl (lv_at hl 3 rfl) ?_
  refine sc_row (j := 1) (lv := []) hx hb hX hbl hbA hS (by omega) hL (lv_at hl 1 rfl) (lv_at hl 5 rfl) dL_258 dL_259 dL_261 dL_262 dL_263 (by decide) ?_
  refine sc_row (j := 2) (lv := []) hx hb hX hbl hbA hS (by omega) hL (lv_at hl 1 rfl) (lv_at hl 5 rfl) dL_264 dL_265 dL_267 dL_268 dL_269 (by decide) ?_
  refine sc_row (j := 3) (lv := []) hx hb hX hbl hbA hS (by omega) hL (lv_at hl 1 rfl) (lv_at hl 5 rfl) dL_270 dL_271 dL_273 dL_274 dL_275 (by decide) ?_
  refine mo_go (W.runV (As := [.int (xs (n + 1)), .int (xs (n + 2)), .int (xs (n + 3))]) (rest := []) ⟨hx, hb, hml, hown, hts⟩ (kMo_flip l D r cI cJ cZ hri mm (xs (n + 1)) (xs (n + 2)) (xs (n + 3))) (cwV 3 hts (gV wm5_48 wm5_49 wm5_50 wm1_9 wm5_51) rfl rfl rfl (by decide +kernel) ⟨Nat.le_of_ble_eq_true rfl, Nat.le_of_ble_eq_true rfl⟩) (m_preV0 hK hM) rfl rfl hl.1 rfl (lv_room (Nat.le_of_ble_eq_true rfl)) dL_276 ⟨hc, hsl⟩) hS hrA hP hO hqr hor (fun H locs hP hO hM hS => ?_)
  generalize fMo_flip mm (xs (n + 1)) (xs (n + 2)) (xs (n + 3)) = y at hR hM ⊢
  obtain ⟨y, mm1⟩ := y
  dsimp only at hR hM ⊢
  refine lv_istore (lv' := [(6, .int (bb (y))), (5, .int (g.1)), (0, .ref b), (1, .ref (q 0)), (2, .ref (r 0)), (3, .ref o), (4, .int (nI n))]) hx hb dL_279 hl (by decide) rfl (fun ls hl => ?_)
  refine lv_aload_n hx hb dL_281 rfl (lv_at hl 4 rfl) ?_
  refine cl_rd (W.runV (As := []) (rest := []) ⟨hx, hb, hml, hown, hts⟩ (kMo_thrown l D r cI cJ cZ hri mm1) (cwV 0 hts (gV wm5_33 wm5_34 wm5_35 wm1_9 wm5_36) rfl rfl rfl (by decide +kernel) ⟨Nat.le_of_ble_eq_true rfl, Nat.le_of_ble_eq_true rfl⟩) (m_preV0 hK hM) rfl rfl hl.1 rfl (lv_room (Nat.le_of_ble_eq_true rfl)) dL_282 ⟨hc, hsl⟩) ?_
  refine lv_iload hx hb dL_285 (lv_at hl 1 rfl) ?_
  refine lv_icmp_eq (tgt := 292) hx hb dL_287 rfl (fun _ => ?_) (fun h => absurd hR.1.2 h)
  refine lv_iload hx hb dL_292 (lv_at hl 1 rfl) ?_
  refine lv_if_ne (tgt := 316) hx hb dL_294 rfl (fun _ => ?_) (fun h0 => ?_)
  · refine lv_goto (tgt := 1075) hx hb dL_316 rfl ?_
    exact kk _ _ _ _ _ _ ⟨hP, hO, hM, hS, RF_le hR.1.1 (by omega)⟩ (lv_sub hl [2, 3, 4, 5, 6] rfl)
  · refine lv_aload_n hx hb dL_297 rfl (lv_at hl 5 rfl) ?_
    refine lv_iconst (v := 0) hx hb dL_298 (by decide) ?_
    refine ow_lald hx hb hK hO dL_299 ?_
    refine lv_iload hx hb dL_300 (lv_at hl 0 rfl) ?_
    refine nl_row hx hb dL_302 dL_305 dL_306 dL_309 ?_
    refine lc_eq (tgt := 316) hx hb dL_310 dL_311 rfl (fun _ => ?_) (fun h => absurd (hR.2 h0) h)
    refine lv_goto (tgt := 1075) hx hb dL_316 rfl ?_
    exact kk _ _ _ _ _ _ ⟨hP, hO, hM, hS, RF_le hR.1.1 (by omega)⟩ (lv_sub hl [2, 3, 4, 5, 6] rfl)
theorem arm_2 {p : Program} {l : Launch} {e : Env} {s : State} {m : MethodId} {below : List Frame} {meth : Method} {c : Code} {b L : Nat} {xs : Nat → Int32} {D : va_G} {q r : Nat → Nat} {o : Nat} {cI cJ cZ : ClassId} {H : Heap} {locs : List Loc} {cells slots n : Nat} {ls : Array Slot} {z : SC} {mm : SM} {f : Nat → Int64} {T : Int} (E : LE p l s m meth c b L xs D q r o cI cJ cZ) (hS : Lz s D q r o cI cJ cZ H locs z mm f T) (hT : T + 120000 ≤ 4000000000000000000) (hc : cells + 1 ≤ 1082) (hsl : slots + 6 ≤ 14493) (hn : n + 5 ≤ L) (hl : lv_has ls 8 [(0, .ref b), (1, .ref (q 0)), (2, .ref (r 0)), (3, .ref o), (4, .int (nI n))]) (kk : KA p l e s m below meth c b D q r o cI cJ cZ n (cells + 1) (slots + 6) (T + 120000)) : W p l e room_1 s m #[Value.ref b] below meth c H locs cells slots (lw_Z below #[Value.ref b] s) (F0 m 319 ls []) := by
  obtain ⟨hx, hb, hr, hml, hown, hts, hX, hbl, hlocks, hK, hz, hnc, hfl, hqi, hri, hqA, hrA, hoA, hqr, hoq, hor, hL⟩ := E
  obtain ⟨hP, hO, hM, hS, hF⟩ := hS
  have hbA : ¬ lA s b := fun h => Nat.not_le_of_lt hbl h
  have hzU := xz_at hz hS
  refine lv_aload_n hx hb dL_319 rfl (lv_at hl 1 rfl) ?_
  refine sc_row (j := 1) (lv := []) hx hb hX hbl hbA hS (by omega) hL (lv_at hl 0 rfl) (lv_at hl 4 rfl) dL_320 dL_321 dL_323 dL_324 dL_325 (by decide) ?_
  refine lv_i2l hx hb dL_326 rfl ?_
  refine lv_bipush (v := 32) hx hb dL_327 (by decide) ?_
  refine lv_lshl hx hb dL_329 rfl ?_
  refine sc_row (j := 2) (lv := []) hx hb hX hbl hbA hS (by omega) hL (lv_at hl 0 rfl) (lv_at hl 4 rfl) dL_330 dL_331 dL_333 dL_334 dL_335 (by decide) ?_
  refine lv_i2l hx hb dL_336 rfl ?_
  refine lv_ldc2 (v := 4294967295) hx hb hown (hts _ (List.mem_cons_of_mem _ wm5_223)) dL_337 ?_
  refine lv_land hx hb dL_340 ?_
  refine lv_lor hx hb dL_341 ?_
  refine sc_row (j := 3) (lv := []) hx hb hX hbl hbA hS (by omega) hL (lv_at hl 0 rfl) (lv_at hl 4 rfl) dL_342 dL_343 dL_345 dL_346 dL_347 (by decide) ?_
  refine nz_row hx hb dL_348 dL_351 dL_352 dL_355 ?_
  refine lv_aload_n hx hb dL_356 rfl (lv_at hl 3 rfl) ?_
  have hR := card_R hF f ((((xs (n + 1)).toInt64) <<< ((32 : Int32).toInt64 &&& 63)) ||| (((xs (n + 2)).toInt64) &&& (4294967295))) (nz (xs (n + 3)))
  refine hp_go (runSW (As := [.ref ((q 0)), .long ((((xs (n + 1)).toInt64) <<< ((32 : Int32).toInt64 &&& 63)) ||| (((xs (n + 2)).toInt64) &&& (4294967295))), .int (bb (nz (xs (n + 3)))), .ref (o)]) (rest := []) (n := 4) ⟨hx, hb, hml, hown, hts⟩ (kLa_card l D q cI cJ cZ hqi hfl o hoq z f ((((xs (n + 1)).toInt64) <<< ((32 : Int32).toInt64 &&& 63)) ||| (((xs (n + 2)).toInt64) &&& (4294967295))) (nz (xs (n + 3))) (pr_card hF)) rfl rfl ⟨Nat.le_of_ble_eq_true rfl, Nat.le_of_ble_eq_true rfl⟩ rfl cwLa_card (fun w h => hts w (List.mem_cons_of_mem _ h)) (hts _ (List.mem_cons_of_mem _ wm1_0)) (hts _ (List.mem_cons_of_mem _ wm2_134)) (hts _ (List.mem_cons_of_mem _ wm2_133)) (by decide +kernel) (hp_pre hK hP hzU hnc hO) rfl rfl hl.1 rfl (lv_room (Nat.le_of_ble_eq_true rfl)) dL_357 ⟨hc, hsl⟩) hS (fun x h => h.elim (hqA x) (fun e => e ▸ hoA)) hM (fun x h h2 => h2.elim (fun h3 => hqr x h3 h) (fun e => hor (e ▸ h))) (fun H locs hP hO hM hS => ?_)
  generalize gLa_card z f ((((xs (n + 1)).toInt64) <<< ((32 : Int32).toInt64 &&& 63)) ||| (((xs (n + 2)).toInt64) &&& (4294967295))) (nz (xs (n + 3))) = g at hR hP hO ⊢
  refine lv_istore (lv' := [(5, .int (g.1)), (0, .ref b), (1, .ref (q 0)), (2, .ref (r 0)), (3, .ref o), (4, .int (nI n))]) hx hb dL_360 hl (by decide) rfl (fun ls hl => ?_)
  refine lv_aload_n hx hb dL_362 rfl (lv_at hl 3 rfl) ?_
  refine sc_row (j := 1) (lv := []) hx hb hX hbl hbA hS (by omega) hL (lv_at hl 1 rfl) (lv_at hl 5 rfl) dL_363 dL_364 dL_366 dL_367 dL_368 (by decide) ?_
  refine lv_i2l hx hb dL_369 rfl ?_
  refine lv_bipush (v := 32) hx hb dL_370 (by decide) ?_
  refine lv_lshl hx hb dL_372 rfl ?_
  refine sc_row (j := 2) (lv := []) hx hb hX hbl hbA hS (by omega) hL (lv_at hl 1 rfl) (lv_at hl 5 rfl) dL_373 dL_374 dL_376 dL_377 dL_378 (by decide) ?_
  refine lv_i2l hx hb dL_379 rfl ?_
  refine lv_ldc2 (v := 4294967295) hx hb hown (hts _ (List.mem_cons_of_mem _ wm5_223)) dL_380 ?_
  refine lv_land hx hb dL_383 ?_
  refine lv_lor hx hb dL_384 ?_
  refine sc_row (j := 3) (lv := []) hx hb hX hbl hbA hS (by omega) hL (lv_at hl 1 rfl) (lv_at hl 5 rfl) dL_385 dL_386 dL_388 dL_389 dL_390 (by decide) ?_
  refine nz_row hx hb dL_391 dL_394 dL_395 dL_398 ?_
  refine mo_go (W.runV (As := [.long ((((xs (n + 1)).toInt64) <<< ((32 : Int32).toInt64 &&& 63)) ||| (((xs (n + 2)).toInt64) &&& (4294967295))), .int (bb (nz (xs (n + 3))))]) (rest := []) ⟨hx, hb, hml, hown, hts⟩ (kMo_card l D r cI cJ cZ hri mm ((((xs (n + 1)).toInt64) <<< ((32 : Int32).toInt64 &&& 63)) ||| (((xs (n + 2)).toInt64) &&& (4294967295))) (nz (xs (n + 3))) hF.1.2.1.2.1) (cwV 2 hts (gV wm5_60 wm5_61 wm5_62 wm1_9 wm5_63) rfl rfl rfl (by decide +kernel) ⟨Nat.le_of_ble_eq_true rfl, Nat.le_of_ble_eq_true rfl⟩) (m_preV0 hK hM) rfl rfl hl.1 rfl (lv_room (Nat.le_of_ble_eq_true rfl)) dL_399 ⟨hc, hsl⟩) hS hrA hP hO hqr hor (fun H locs hP hO hM hS => ?_)
  generalize fMo_card mm ((((xs (n + 1)).toInt64) <<< ((32 : Int32).toInt64 &&& 63)) ||| (((xs (n + 2)).toInt64) &&& (4294967295))) (nz (xs (n + 3))) = y at hR hM ⊢
  obtain ⟨y, mm1⟩ := y
  dsimp only at hR hM ⊢
  refine lv_istore (lv' := [(6, .int (y)), (5, .int (g.1)), (0, .ref b), (1, .ref (q 0)), (2, .ref (r 0)), (3, .ref o), (4, .int (nI n))]) hx hb dL_402 hl (by decide) rfl (fun ls hl => ?_)
  refine lv_aload_n hx hb dL_404 rfl (lv_at hl 4 rfl) ?_
  refine cl_rd (W.runV (As := []) (rest := []) ⟨hx, hb, hml, hown, hts⟩ (kMo_thrown l D r cI cJ cZ hri mm1) (cwV 0 hts (gV wm5_33 wm5_34 wm5_35 wm1_9 wm5_36) rfl rfl rfl (by decide +kernel) ⟨Nat.le_of_ble_eq_true rfl, Nat.le_of_ble_eq_true rfl⟩) (m_preV0 hK hM) rfl rfl hl.1 rfl (lv_room (Nat.le_of_ble_eq_true rfl)) dL_405 ⟨hc, hsl⟩) ?_
  refine lv_iload hx hb dL_408 (lv_at hl 1 rfl) ?_
  refine lv_icmp_eq (tgt := 415) hx hb dL_410 rfl (fun _ => ?_) (fun h => absurd hR.1.2 h)
  refine lv_iload hx hb dL_415 (lv_at hl 1 rfl) ?_
  refine lv_if_ne (tgt := 432) hx hb dL_417 rfl (fun _ => ?_) (fun h0 => ?_)
  · refine lv_goto (tgt := 1075) hx hb dL_432 rfl ?_
    exact kk _ _ _ _ _ _ ⟨hP, hO, hM, hS, RF_le hR.1.1 (by omega)⟩ (lv_sub hl [2, 3, 4, 5, 6] rfl)
  · refine lv_aload_n hx hb dL_420 rfl (lv_at hl 5 rfl) ?_
    refine lv_iconst (v := 0) hx hb dL_421 (by decide) ?_
    refine ow_lald hx hb hK hO dL_422 ?_
    refine lv_iload hx hb dL_423 (lv_at hl 0 rfl) ?_
    refine lv_i2l hx hb dL_425 rfl ?_
    refine lc_eq (tgt := 432) hx hb dL_426 dL_427 rfl (fun _ => ?_) (fun h => absurd (hR.2 h0) h)
    refine lv_goto (tgt := 1075) hx hb dL_432 rfl ?_
    exact kk _ _ _ _ _ _ ⟨hP, hO, hM, hS, RF_le hR.1.1 (by omega)⟩ (lv_sub hl [2, 3, 4, 5, 6] rfl)
theorem arm_3 {p : Program} {l : Launch} {e : Env} {s : State} {m : MethodId} {below : List Frame} {meth : Method} {c : Code} {b L : Nat} {xs : Nat → Int32} {D : va_G} {q r : Nat → Nat} {o : Nat} {cI cJ cZ : ClassId} {H : Heap} {locs : List Loc} {cells slots n : Nat} {ls : Array Slot} {z : SC} {mm : SM} {f : Nat → Int64} {T : Int} (E : LE p l s m meth c b L xs D q r o cI cJ cZ) (hS : Lz s D q r o cI cJ cZ H locs z mm f T) (hT : T + 120000 ≤ 4000000000000000000) (hc : cells + 1 ≤ 1082) (hsl : slots + 6 ≤ 14493) (hn : n + 5 ≤ L) (hl : lv_has ls 8 [(0, .ref b), (1, .ref (q 0)), (2, .ref (r 0)), (3, .ref o), (4, .int (nI n))]) (kk : KA p l e s m below meth c b D q r o cI cJ cZ n (cells + 1) (slots + 6) (T + 120000)) : W p l e room_1 s m #[Value.ref b] below meth c H locs cells slots (lw_Z below #[Value.ref b] s) (F0 m 435 ls []) := by
  obtain ⟨hx, hb, hr, hml, hown, hts, hX, hbl, hlocks, hK, hz, hnc, hfl, hqi, hri, hqA, hrA, hoA, hqr, hoq, hor, hL⟩ := E
  obtain ⟨hP, hO, hM, hS, hF⟩ := hS
  have hbA : ¬ lA s b := fun h => Nat.not_le_of_lt hbl h
  have hzU := xz_at hz hS
  refine lv_aload_n hx hb dL_435 rfl (lv_at hl 1 rfl) ?_
  refine sc_row (j := 1) (lv := []) hx hb hX hbl hbA hS (by omega) hL (lv_at hl 0 rfl) (lv_at hl 4 rfl) dL_436 dL_437 dL_439 dL_440 dL_441 (by decide) ?_
  refine sc_row (j := 2) (lv := []) hx hb hX hbl hbA hS (by omega) hL (lv_at hl 0 rfl) (lv_at hl 4 rfl) dL_442 dL_443 dL_445 dL_446 dL_447 (by decide) ?_
  refine sc_row (j := 3) (lv := []) hx hb hX hbl hbA hS (by omega) hL (lv_at hl 0 rfl) (lv_at hl 4 rfl) dL_448 dL_449 dL_451 dL_452 dL_453 (by decide) ?_
  refine sc_row (j := 4) (lv := []) hx hb hX hbl hbA hS (by omega) hL (lv_at hl 0 rfl) (lv_at hl 4 rfl) dL_454 dL_455 dL_457 dL_458 dL_459 (by decide) ?_
  refine lv_aload_n hx hb dL_460 rfl (lv_at hl 3 rfl) ?_
  have hR := line_R hF f (xs (n + 1)) (xs (n + 2)) (xs (n + 3)) (xs (n + 4))
  refine hp_go (runSW (As := [.ref ((q 0)), .int (xs (n + 1)), .int (xs (n + 2)), .int (xs (n + 3)), .int (xs (n + 4)), .ref (o)]) (rest := []) (n := 6) ⟨hx, hb, hml, hown, hts⟩ (kLa_line l D q cI cJ cZ hqi hfl o hoq z f (xs (n + 1)) (xs (n + 2)) (xs (n + 3)) (xs (n + 4)) (pr_line hF)) rfl rfl ⟨Nat.le_of_ble_eq_true rfl, Nat.le_of_ble_eq_true rfl⟩ rfl cwLa_line (fun w h => hts w (List.mem_cons_of_mem _ h)) (hts _ (List.mem_cons_of_mem _ wm1_0)) (hts _ (List.mem_cons_of_mem _ wm2_171)) (hts _ (List.mem_cons_of_mem _ wm2_170)) (by decide +kernel) (hp_pre hK hP hzU hnc hO) rfl rfl hl.1 rfl (lv_room (Nat.le_of_ble_eq_true rfl)) dL_461 ⟨hc, hsl⟩) hS (fun x h => h.elim (hqA x) (fun e => e ▸ hoA)) hM (fun x h h2 => h2.elim (fun h3 => hqr x h3 h) (fun e => hor (e ▸ h))) (fun H locs hP hO hM hS => ?_)
  generalize gLa_line z f (xs (n + 1)) (xs (n + 2)) (xs (n + 3)) (xs (n + 4)) = g at hR hP hO ⊢
  refine lv_istore (lv' := [(5, .int (g.1)), (0, .ref b), (1, .ref (q 0)), (2, .ref (r 0)), (3, .ref o), (4, .int (nI n))]) hx hb dL_464 hl (by decide) rfl (fun ls hl => ?_)
  refine lv_aload_n hx hb dL_466 rfl (lv_at hl 3 rfl) ?_
  refine sc_row (j := 1) (lv := []) hx hb hX hbl hbA hS (by omega) hL (lv_at hl 1 rfl) (lv_at hl 5 rfl) dL_467 dL_468 dL_470 dL_471 dL_472 (by decide) ?_
  refine sc_row (j := 2) (lv := []) hx hb hX hbl hbA hS (by omega) hL (lv_at hl 1 rfl) (lv_at hl 5 rfl) dL_473 dL_474 dL_476 dL_477 dL_478 (by decide) ?_
  refine sc_row (j := 3) (lv := []) hx hb hX hbl hbA hS (by omega) hL (lv_at hl 1 rfl) (lv_at hl 5 rfl) dL_479 dL_480 dL_482 dL_483 dL_484 (by decide) ?_
  refine sc_row (j := 4) (lv := []) hx hb hX hbl hbA hS (by omega) hL (lv_at hl 1 rfl) (lv_at hl 5 rfl) dL_485 dL_486 dL_488 dL_489 dL_490 (by decide) ?_
  refine mo_go (W.runV (As := [.int (xs (n + 1)), .int (xs (n + 2)), .int (xs (n + 3)), .int (xs (n + 4))]) (rest := []) ⟨hx, hb, hml, hown, hts⟩ (kMo_line l D r cI cJ cZ hri mm (xs (n + 1)) (xs (n + 2)) (xs (n + 3)) (xs (n + 4)) (pr_mA hF).1) (cwV 4 hts (gV wm5_147 wm5_148 wm5_149 wm1_9 wm5_150) rfl rfl rfl (by decide +kernel) ⟨Nat.le_of_ble_eq_true rfl, Nat.le_of_ble_eq_true rfl⟩) (m_preV0 hK hM) rfl rfl hl.1 rfl (lv_room (Nat.le_of_ble_eq_true rfl)) dL_491 ⟨hc, hsl⟩) hS hrA hP hO hqr hor (fun H locs hP hO hM hS => ?_)
  generalize fMo_line mm (xs (n + 1)) (xs (n + 2)) (xs (n + 3)) (xs (n + 4)) = y at hR hM ⊢
  obtain ⟨y, mm1⟩ := y
  dsimp only at hR hM ⊢
  refine lv_istore (lv' := [(6, .int (y)), (5, .int (g.1)), (0, .ref b), (1, .ref (q 0)), (2, .ref (r 0)), (3, .ref o), (4, .int (nI n))]) hx hb dL_494 hl (by decide) rfl (fun ls hl => ?_)
  refine lv_aload_n hx hb dL_496 rfl (lv_at hl 4 rfl) ?_
  refine cl_rd (W.runV (As := []) (rest := []) ⟨hx, hb, hml, hown, hts⟩ (kMo_thrown l D r cI cJ cZ hri mm1) (cwV 0 hts (gV wm5_33 wm5_34 wm5_35 wm1_9 wm5_36) rfl rfl rfl (by decide +kernel) ⟨Nat.le_of_ble_eq_true rfl, Nat.le_of_ble_eq_true rfl⟩) (m_preV0 hK hM) rfl rfl hl.1 rfl (lv_room (Nat.le_of_ble_eq_true rfl)) dL_497 ⟨hc, hsl⟩) ?_
  refine lv_iload hx hb dL_500 (lv_at hl 1 rfl) ?_
  refine lv_icmp_eq (tgt := 507) hx hb dL_502 rfl (fun _ => ?_) (fun h => absurd hR.1.2 h)
  refine lv_iload hx hb dL_507 (lv_at hl 1 rfl) ?_
  refine lv_if_ne (tgt := 524) hx hb dL_509 rfl (fun _ => ?_) (fun h0 => ?_)
  · refine lv_goto (tgt := 1075) hx hb dL_524 rfl ?_
    exact kk _ _ _ _ _ _ ⟨hP, hO, hM, hS, RF_le hR.1.1 (by omega)⟩ (lv_sub hl [2, 3, 4, 5, 6] rfl)
  · refine lv_aload_n hx hb dL_512 rfl (lv_at hl 5 rfl) ?_
    refine lv_iconst (v := 0) hx hb dL_513 (by decide) ?_
    refine ow_lald hx hb hK hO dL_514 ?_
    refine lv_iload hx hb dL_515 (lv_at hl 0 rfl) ?_
    refine lv_i2l hx hb dL_517 rfl ?_
    refine lc_eq (tgt := 524) hx hb dL_518 dL_519 rfl (fun _ => ?_) (fun h => absurd (hR.2 h0) h)
    refine lv_goto (tgt := 1075) hx hb dL_524 rfl ?_
    exact kk _ _ _ _ _ _ ⟨hP, hO, hM, hS, RF_le hR.1.1 (by omega)⟩ (lv_sub hl [2, 3, 4, 5, 6] rfl)
theorem arm_4 {p : Program} {l : Launch} {e : Env} {s : State} {m : MethodId} {below : List Frame} {meth : Method} {c : Code} {b L : Nat} {xs : Nat → Int32} {D : va_G} {q r : Nat → Nat} {o : Nat} {cI cJ cZ : ClassId} {H : Heap} {locs : List Loc} {cells slots n : Nat} {ls : Array Slot} {z : SC} {mm : SM} {f : Nat → Int64} {T : Int} (E : LE p l s m meth c b L xs D q r o cI cJ cZ) (hS : Lz s D q r o cI cJ cZ H locs z mm f T) (hT : T + 120000 ≤ 4000000000000000000) (hc : cells + 1 ≤ 1082) (hsl : slots + 6 ≤ 14493) (hn : n + 5 ≤ L) (hl : lv_has ls 8 [(0, .ref b), (1, .ref (q 0)), (2, .ref (r 0)), (3, .ref o), (4, .int (nI n))]) (kk : KA p l e s m below meth c b D q r o cI cJ cZ n (cells + 1) (slots + 6) (T + 120000)) : W p l e room_1 s m #[Value.ref b] below meth c H locs cells slots (lw_Z below #[Value.ref b] s) (F0 m 527 ls []) := by
  obtain ⟨hx, hb, hr, hml, hown, hts, hX, hbl, hlocks, hK, hz, hnc, hfl, hqi, hri, hqA, hrA, hoA, hqr, hoq, hor, hL⟩ := E
  obtain ⟨hP, hO, hM, hS, hF⟩ := hS
  have hbA : ¬ lA s b := fun h => Nat.not_le_of_lt hbl h
  have hzU := xz_at hz hS
  refine lv_aload_n hx hb dL_527 rfl (lv_at hl 1 rfl) ?_
  refine sc_row (j := 1) (lv := []) hx hb hX hbl hbA hS (by omega) hL (lv_at hl 0 rfl) (lv_at hl 4 rfl) dL_528 dL_529 dL_531 dL_532 dL_533 (by decide) ?_
  have hR := reserve_R hF f (xs (n + 1))
  refine hp_go (runSW (As := [.ref ((q 0)), .int (xs (n + 1))]) (rest := []) (n := 2) ⟨hx, hb, hml, hown, hts⟩ (kLa_reserve l D q cI cJ cZ hqi hfl o hoq z f (xs (n + 1))) rfl rfl ⟨Nat.le_of_ble_eq_true rfl, Nat.le_of_ble_eq_true rfl⟩ rfl cwLa_reserve (fun w h => hts w (List.mem_cons_of_mem _ h)) (hts _ (List.mem_cons_of_mem _ wm1_0)) (hts _ (List.mem_cons_of_mem _ wm2_212)) (hts _ (List.mem_cons_of_mem _ wm2_211)) (by decide +kernel) (hp_pre hK hP hzU hnc hO) rfl rfl hl.1 rfl (lv_room (Nat.le_of_ble_eq_true rfl)) dL_534 ⟨hc, hsl⟩) hS (fun x h => h.elim (hqA x) (fun e => e ▸ hoA)) hM (fun x h h2 => h2.elim (fun h3 => hqr x h3 h) (fun e => hor (e ▸ h))) (fun H locs hP hO hM hS => ?_)
  generalize gLa_reserve z f (xs (n + 1)) = g at hR hP hO ⊢
  refine lv_istore (lv' := [(5, .int (g.1)), (0, .ref b), (1, .ref (q 0)), (2, .ref (r 0)), (3, .ref o), (4, .int (nI n))]) hx hb dL_537 hl (by decide) rfl (fun ls hl => ?_)
  refine lv_aload_n hx hb dL_539 rfl (lv_at hl 3 rfl) ?_
  refine sc_row (j := 1) (lv := []) hx hb hX hbl hbA hS (by omega) hL (lv_at hl 1 rfl) (lv_at hl 5 rfl) dL_540 dL_541 dL_543 dL_544 dL_545 (by decide) ?_
  refine mo_go (W.runV (As := [.int (xs (n + 1))]) (rest := []) ⟨hx, hb, hml, hown, hts⟩ (kMo_reserve l D r cI cJ cZ hri mm (xs (n + 1))) (cwV 1 hts (gV wm5_158 wm5_159 wm5_160 wm1_9 wm5_161) rfl rfl rfl (by decide +kernel) ⟨Nat.le_of_ble_eq_true rfl, Nat.le_of_ble_eq_true rfl⟩) (m_preV0 hK hM) rfl rfl hl.1 rfl (lv_room (Nat.le_of_ble_eq_true rfl)) dL_546 ⟨hc, hsl⟩) hS hrA hP hO hqr hor (fun H locs hP hO hM hS => ?_)
  generalize fMo_reserve mm (xs (n + 1)) = mm1 at hR hM ⊢
  refine lv_aload_n hx hb dL_549 rfl (lv_at hl 3 rfl) ?_
  refine cl_rd (W.runV (As := []) (rest := []) ⟨hx, hb, hml, hown, hts⟩ (kMo_thrown l D r cI cJ cZ hri mm1) (cwV 0 hts (gV wm5_33 wm5_34 wm5_35 wm1_9 wm5_36) rfl rfl rfl (by decide +kernel) ⟨Nat.le_of_ble_eq_true rfl, Nat.le_of_ble_eq_true rfl⟩) (m_preV0 hK hM) rfl rfl hl.1 rfl (lv_room (Nat.le_of_ble_eq_true rfl)) dL_550 ⟨hc, hsl⟩) ?_
  refine lv_iload hx hb dL_553 (lv_at hl 0 rfl) ?_
  refine lv_icmp_eq (tgt := 560) hx hb dL_555 rfl (fun _ => ?_) (fun h => absurd hR.2 h)
  refine lv_goto (tgt := 1075) hx hb dL_560 rfl ?_
  exact kk _ _ _ _ _ _ ⟨hP, hO, hM, hS, RF_le hR.1 (by omega)⟩ (lv_sub hl [1, 2, 3, 4, 5] rfl)
theorem arm_5 {p : Program} {l : Launch} {e : Env} {s : State} {m : MethodId} {below : List Frame} {meth : Method} {c : Code} {b L : Nat} {xs : Nat → Int32} {D : va_G} {q r : Nat → Nat} {o : Nat} {cI cJ cZ : ClassId} {H : Heap} {locs : List Loc} {cells slots n : Nat} {ls : Array Slot} {z : SC} {mm : SM} {f : Nat → Int64} {T : Int} (E : LE p l s m meth c b L xs D q r o cI cJ cZ) (hS : Lz s D q r o cI cJ cZ H locs z mm f T) (hT : T + 120000 ≤ 4000000000000000000) (hc : cells + 1 ≤ 1082) (hsl : slots + 6 ≤ 14493) (hn : n + 5 ≤ L) (hl : lv_has ls 8 [(0, .ref b), (1, .ref (q 0)), (2, .ref (r 0)), (3, .ref o), (4, .int (nI n))]) (kk : KA p l e s m below meth c b D q r o cI cJ cZ n (cells + 1) (slots + 6) (T + 120000)) : W p l e room_1 s m #[Value.ref b] below meth c H locs cells slots (lw_Z below #[Value.ref b] s) (F0 m 563 ls []) := by
  obtain ⟨hx, hb, hr, hml, hown, hts, hX, hbl, hlocks, hK, hz, hnc, hfl, hqi, hri, hqA, hrA, hoA, hqr, hoq, hor, hL⟩ := E
  obtain ⟨hP, hO, hM, hS, hF⟩ := hS
  have hbA : ¬ lA s b := fun h => Nat.not_le_of_lt hbl h
  have hzU := xz_at hz hS
  refine lv_aload_n hx hb dL_563 rfl (lv_at hl 1 rfl) ?_
  have hR := clear_R hF
  refine cl_go (W.runV (As := []) (rest := []) ⟨hx, hb, hml, hown, hts⟩ (kDM_clear l D q cI cJ cZ hqi z) (cwV 0 hts (gV wm1_195 wm1_196 wm1_197 wm1_1 wm1_198) rfl rfl rfl (by decide +kernel) ⟨Nat.le_of_ble_eq_true rfl, Nat.le_of_ble_eq_true rfl⟩) (c_preV0 hK hP) rfl rfl hl.1 rfl (lv_room (Nat.le_of_ble_eq_true rfl)) dL_564 ⟨Nat.le_trans (Nat.le_add_right _ _) hc, Nat.le_trans (Nat.le_add_right _ _) hsl⟩) hS hqA hM hO (fun x h h2 => hqr x h2 h) hoq (fun H locs hP hO hM hS => ?_)
  refine lv_aload_n hx hb dL_567 rfl (lv_at hl 2 rfl) ?_
  refine mo_go (W.runV (As := []) (rest := []) ⟨hx, hb, hml, hown, hts⟩ (kMo_clear l D r cI cJ cZ hri mm) (cwV 0 hts (gV wm5_162 wm5_163 wm5_164 wm1_9 wm5_165) rfl rfl rfl (by decide +kernel) ⟨Nat.le_of_ble_eq_true rfl, Nat.le_of_ble_eq_true rfl⟩) (m_preV0 hK hM) rfl rfl hl.1 rfl (lv_room (Nat.le_of_ble_eq_true rfl)) dL_568 ⟨Nat.le_trans (Nat.le_add_right _ _) hc, Nat.le_trans (Nat.le_add_right _ _) hsl⟩) hS hrA hP hO hqr hor (fun H locs hP hO hM hS => ?_)
  generalize fMo_clear mm = mm1 at hR hM ⊢
  refine lv_goto (tgt := 1075) hx hb dL_571 rfl ?_
  refine w_pad (cells' := cells + 1) (slots' := slots + 6) (Nat.le_add_right _ _) (Nat.le_add_right _ _) ?_
  exact kk _ _ _ _ _ _ ⟨hP, hO, hM, hS, RF_le hR (by omega)⟩ (lv_sub hl [0, 1, 2, 3, 4] rfl)
