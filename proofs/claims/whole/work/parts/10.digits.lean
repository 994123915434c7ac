theorem dDg_fitWord_0 : decode ccDg_fitWord 0 = .ok (.lload_n 0, 1) := by decide +kernel
theorem dDg_fitWord_1 : decode ccDg_fitWord 1 = .ok (.lconst 0, 1) := by decide +kernel
theorem dDg_fitWord_2 : decode ccDg_fitWord 2 = .ok (.lcmp, 1) := by decide +kernel
theorem dDg_fitWord_3 : decode ccDg_fitWord 3 = .ok (.ifCond .lt 15, 3) := by decide +kernel
theorem dDg_fitWord_6 : decode ccDg_fitWord 6 = .ok (.lload_n 0, 1) := by decide +kernel
theorem dDg_fitWord_7 : decode ccDg_fitWord 7 = .ok (.ldc2_w 9, 3) := by decide +kernel
theorem dDg_fitWord_10 : decode ccDg_fitWord 10 = .ok (.lcmp, 1) := by decide +kernel
theorem dDg_fitWord_11 : decode ccDg_fitWord 11 = .ok (.ifCond .ge 7, 3) := by decide +kernel
theorem dDg_fitWord_14 : decode ccDg_fitWord 14 = .ok (.iconst 1, 1) := by decide +kernel
theorem dDg_fitWord_15 : decode ccDg_fitWord 15 = .ok (.goto 4, 3) := by decide +kernel
theorem dDg_fitWord_18 : decode ccDg_fitWord 18 = .ok (.iconst 0, 1) := by decide +kernel
theorem dDg_fitWord_19 : decode ccDg_fitWord 19 = .ok (.ireturn, 1) := by decide +kernel
def fDg_fitWord (v : Int64) : Bool :=
  (if v < 0 then false else (if 10000000000 ≤ v then false else true))
set_option maxHeartbeats 4000000 in
set_option maxRecDepth 100000 in
theorem kDg_fitWord (l : Launch) (v : Int64)  : Met l yDg_fitWord wsDg_fitWord { frames := 0, cells := 0, slots := 0, locals := 0 } (va_Pc [.long (v)] (fun _ => True)) (cQr (some (.int (bb (fDg_fitWord v))))) 0 0 (fun _ => False) := by
  refine Met.ofW (cc := ccDg_fitWord) (maxL := 2) (ret := (some .boolean)) (by decide +kernel) rfl ?_
  intro p e s m args below meth c s₁ B hml hv
  obtain ⟨rfl, -⟩ := hv
  have hx := B.exec
  have hb := B.bytes
  have hr := B.returns
  have hts := atoms_spec (ws := wsDg_fitWord) B.pre
  have hown : s.vm.findClass RDg = some m.cls := findClass_of_methodNamed B.named
  have hlocks := B.notSynchronized
  have w0 := hts (.constantLong RDg 9 (10000000000)) (List.mem_cons_of_mem _ wm2_83)
  have hl := lv_entry ([.long (v)]) (n := 2) (Nat.le_of_ble_eq_true rfl)
  rw [lg_entry_eq]
  generalize (lg_sl ([.long (v)]) ++ List.replicate (2 - (lg_sl ([.long (v)])).length) Slot.unset).toArray = ls at hl ⊢
  have hl : lv_has ls 2 [(0, .long (v))] := hl
  have hR := fDg_fitWord.eq_1 v
  refine lv_lload_n hx hb dDg_fitWord_0 rfl (lv_at hl 0 rfl) ?_
  refine lv_lconst (v := 0) hx hb dDg_fitWord_1 (by decide) ?_
  refine lc_lt hx hb dDg_fitWord_2 dDg_fitWord_3 rfl (fun h2 => ?_) (fun h2 => ?_)
  · have hR := hR.trans (if_pos h2)
    refine lv_iconst (v := 0) hx hb dDg_fitWord_18 (by decide) ?_
    exact W.zret hx hb hr rfl (fun t ht _ => ⟨by rw [hR]; first | done | rfl, ht⟩) (fun _ h => absurd h List.not_mem_nil) dDg_fitWord_19
  · have hR := hR.trans (if_neg h2)
    refine lv_lload_n hx hb dDg_fitWord_6 rfl (lv_at hl 0 rfl) ?_
    refine lv_ldc2 (v := 10000000000) hx hb hown w0 dDg_fitWord_7 ?_
    refine lc_ge hx hb dDg_fitWord_10 dDg_fitWord_11 rfl (fun h10 => ?_) (fun h10 => ?_)
    · have hR := hR.trans (if_pos h10)
      refine lv_iconst (v := 0) hx hb dDg_fitWord_18 (by decide) ?_
      exact W.zret hx hb hr rfl (fun t ht _ => ⟨by rw [hR]; first | done | rfl, ht⟩) (fun _ h => absurd h List.not_mem_nil) dDg_fitWord_19
    · have hR := hR.trans (if_neg h10)
      refine lv_iconst (v := 1) hx hb dDg_fitWord_14 (by decide) ?_
      refine lv_goto hx hb dDg_fitWord_15 rfl ?_
      exact W.zret hx hb hr rfl (fun t ht _ => ⟨by rw [hR]; first | done | rfl, ht⟩) (fun _ h => absurd h List.not_mem_nil) dDg_fitWord_19
theorem dDg_withSign_0 : decode ccDg_withSign 0 = .ok (.iload_n 2, 1) := by decide +kernel
theorem dDg_withSign_1 : decode ccDg_withSign 1 = .ok (.ifCond .eq 8, 3) := by decide +kernel
theorem dDg_withSign_4 : decode ccDg_withSign 4 = .ok (.lload_n 0, 1) := by decide +kernel
theorem dDg_withSign_5 : decode ccDg_withSign 5 = .ok (.lneg, 1) := by decide +kernel
theorem dDg_withSign_6 : decode ccDg_withSign 6 = .ok (.goto 4, 3) := by decide +kernel
theorem dDg_withSign_9 : decode ccDg_withSign 9 = .ok (.lload_n 0, 1) := by decide +kernel
theorem dDg_withSign_10 : decode ccDg_withSign 10 = .ok (.lreturn, 1) := by decide +kernel
def fDg_withSign (v : Int64) (b : Bool) : Int64 :=
  (if b = true then -v else v)
set_option maxHeartbeats 4000000 in
set_option maxRecDepth 100000 in
theorem kDg_withSign (l : Launch) (v : Int64) (b : Bool)  : Met l yDg_withSign wsDg_withSign { frames := 0, cells := 0, slots := 0, locals := 0 } (va_Pc [.long (v), .int (bb (b))] (fun _ => True)) (cQr (some (.long (fDg_withSign v b)))) 0 0 (fun _ => False) := by
  refine Met.ofW (cc := ccDg_withSign) (maxL := 3) (ret := (some .long)) (by decide +kernel) rfl ?_
  intro p e s m args below meth c s₁ B hml hv
  obtain ⟨rfl, -⟩ := hv
  have hx := B.exec
  have hb := B.bytes
  have hr := B.returns
  have hts := atoms_spec (ws := wsDg_withSign) B.pre
  have hown : s.vm.findClass RDg = some m.cls := findClass_of_methodNamed B.named
  have hlocks := B.notSynchronized
  have hl := lv_entry ([.long (v), .int (bb (b))]) (n := 3) (Nat.le_of_ble_eq_true rfl)
  rw [lg_entry_eq]
  generalize (lg_sl ([.long (v), .int (bb (b))]) ++ List.replicate (3 - (lg_sl ([.long (v), .int (bb (b))])).length) Slot.unset).toArray = ls at hl ⊢
  have hl : lv_has ls 3 [(0, .long (v)), (2, .int (bb (b)))] := hl
  have hR := fDg_withSign.eq_1 v b
  refine lv_iload_n hx hb dDg_withSign_0 rfl (lv_at hl 1 rfl) ?_
  refine wz_ifeq hx hb dDg_withSign_1 rfl (fun h1 => ?_) (fun h1 => ?_)
  · have hR := hR.trans (if_neg h1)
    refine lv_lload_n hx hb dDg_withSign_9 rfl (lv_at hl 0 rfl) ?_
    exact W.lret hx hb hr (fun t ht _ => ⟨by rw [hR]; first | done | rfl, ht⟩) (fun _ h => absurd h List.not_mem_nil) dDg_withSign_10
  · have hR := hR.trans (if_pos h1)
    refine lv_lload_n hx hb dDg_withSign_4 rfl (lv_at hl 0 rfl) ?_
    refine lv_lneg hx hb dDg_withSign_5 ?_
    refine lv_goto hx hb dDg_withSign_6 rfl ?_
    exact W.lret hx hb hr (fun t ht _ => ⟨by rw [hR]; first | done | rfl, ht⟩) (fun _ h => absurd h List.not_mem_nil) dDg_withSign_10
theorem dDg_powerOfTen_0 : decode ccDg_powerOfTen 0 = .ok (.lconst 1, 1) := by decide +kernel
theorem dDg_powerOfTen_1 : decode ccDg_powerOfTen 1 = .ok (.lstore_n 1, 1) := by decide +kernel
theorem dDg_powerOfTen_2 : decode ccDg_powerOfTen 2 = .ok (.iconst 0, 1) := by decide +kernel
theorem dDg_powerOfTen_3 : decode ccDg_powerOfTen 3 = .ok (.istore_n 3, 1) := by decide +kernel
theorem dDg_powerOfTen_4 : decode ccDg_powerOfTen 4 = .ok (.iload_n 3, 1) := by decide +kernel
theorem dDg_powerOfTen_5 : decode ccDg_powerOfTen 5 = .ok (.iload_n 0, 1) := by decide +kernel
theorem dDg_powerOfTen_6 : decode ccDg_powerOfTen 6 = .ok (.if_icmp .ge 21, 3) := by decide +kernel
theorem dDg_powerOfTen_9 : decode ccDg_powerOfTen 9 = .ok (.iload_n 3, 1) := by decide +kernel
theorem dDg_powerOfTen_10 : decode ccDg_powerOfTen 10 = .ok (.bipush 10, 2) := by decide +kernel
theorem dDg_powerOfTen_12 : decode ccDg_powerOfTen 12 = .ok (.if_icmp .ge 15, 3) := by decide +kernel
theorem dDg_powerOfTen_15 : decode ccDg_powerOfTen 15 = .ok (.lload_n 1, 1) := by decide +kernel
theorem dDg_powerOfTen_16 : decode ccDg_powerOfTen 16 = .ok (.ldc2_w 11, 3) := by decide +kernel
theorem dDg_powerOfTen_19 : decode ccDg_powerOfTen 19 = .ok (.lmul, 1) := by decide +kernel
theorem dDg_powerOfTen_20 : decode ccDg_powerOfTen 20 = .ok (.lstore_n 1, 1) := by decide +kernel
theorem dDg_powerOfTen_21 : decode ccDg_powerOfTen 21 = .ok (.iinc 3 1, 3) := by decide +kernel
theorem dDg_powerOfTen_24 : decode ccDg_powerOfTen 24 = .ok (.goto (-20), 3) := by decide +kernel
theorem dDg_powerOfTen_27 : decode ccDg_powerOfTen 27 = .ok (.lload_n 1, 1) := by decide +kernel
theorem dDg_powerOfTen_28 : decode ccDg_powerOfTen 28 = .ok (.lreturn, 1) := by decide +kernel
def fDg_powerOfTen_4  : Nat → Int32 → Int64 → Nat → Int64
  | 0, x, v1, v3 => 0
  | fu + 1, x, v1, v3 => (if x ≤ (nI (v3)) then v1 else (if 10 ≤ v3 then v1 else fDg_powerOfTen_4 fu x (v1 * 10) (v3 + 1)))
def fDg_powerOfTen (x : Int32) : Int64 :=
  fDg_powerOfTen_4 11 x 1 0
set_option maxHeartbeats 4000000 in
set_option maxRecDepth 100000 in
theorem kDg_powerOfTen (l : Launch) (x : Int32)  : Met l yDg_powerOfTen wsDg_powerOfTen { frames := 0, cells := 0, slots := 0, locals := 0 } (va_Pc [.int (x)] (fun _ => True)) (cQr (some (.long (fDg_powerOfTen x)))) 0 0 (fun _ => False) := by
  refine Met.ofW (cc := ccDg_powerOfTen) (maxL := 4) (ret := (some .long)) (by decide +kernel) rfl ?_
  intro p e s m args below meth c s₁ B hml hv
  obtain ⟨rfl, -⟩ := hv
  have hx := B.exec
  have hb := B.bytes
  have hr := B.returns
  have hts := atoms_spec (ws := wsDg_powerOfTen) B.pre
  have hown : s.vm.findClass RDg = some m.cls := findClass_of_methodNamed B.named
  have hlocks := B.notSynchronized
  have w0 := hts (.constantLong RDg 11 (10)) (List.mem_cons_of_mem _ wm3_173)
  have hl := lv_entry ([.int (x)]) (n := 4) (Nat.le_of_ble_eq_true rfl)
  rw [lg_entry_eq]
  generalize (lg_sl ([.int (x)]) ++ List.replicate (4 - (lg_sl ([.int (x)])).length) Slot.unset).toArray = ls at hl ⊢
  have hl : lv_has ls 4 [(0, .int (x))] := hl
  have hB4 : ∀ (n4 : Nat) (ls : Array Slot) (v1 : Int64) (v3 : Nat), 10 - v3 < n4 → fDg_powerOfTen x = fDg_powerOfTen_4 n4 x v1 v3 → (v3 ≤ 10) → lv_has ls 4 [(0, .int (x)), (1, .long (v1)), (3, .int (nI (v3)))] → W p l e (headSpec wsDg_powerOfTen { frames := 0, cells := 0, slots := 0, locals := 0 }).room s m ([.int (x)] : List Value).toArray below meth c s.heap [] 0 0 (MQ below (cQr (some (.long (fDg_powerOfTen x)))) ([.int (x)] : List Value).toArray s 0 0 (fun _ => False)) (F0 m 4 ls []) := by
    intro n4
    induction n4 with
    | zero => intro ls v1 v3 hn4; exact absurd hn4 (Nat.not_lt_zero _)
    | succ n4 ih4 =>
      intro ls v1 v3 hn4 hR h3 hl
      rw [fDg_powerOfTen_4.eq_2] at hR
      refine lv_iload_n hx hb dDg_powerOfTen_4 rfl (lv_at hl 2 rfl) ?_
      refine lv_iload_n hx hb dDg_powerOfTen_5 rfl (lv_at hl 0 rfl) ?_
      refine lv_icmp_ge hx hb dDg_powerOfTen_6 rfl (fun h6 => ?_) (fun h6 => ?_)
      · have hR := hR.trans (if_pos h6)
        refine lv_lload_n hx hb dDg_powerOfTen_27 rfl (lv_at hl 1 rfl) ?_
        exact W.lret hx hb hr (fun t ht _ => ⟨by rw [hR]; first | done | rfl, ht⟩) (fun _ h => absurd h List.not_mem_nil) dDg_powerOfTen_28
      · have hR := hR.trans (if_neg h6)
        refine lv_iload_n hx hb dDg_powerOfTen_9 rfl (lv_at hl 2 rfl) ?_
        refine lv_bipush (v := 10) hx hb dDg_powerOfTen_10 (by decide) ?_
        refine wn_ge (x := v3) (y := 10) hx hb (by omega) (by omega) dDg_powerOfTen_12 rfl (fun h12 => ?_) (fun h12 => ?_)
        · have hR := hR.trans (if_pos h12)
          refine lv_lload_n hx hb dDg_powerOfTen_27 rfl (lv_at hl 1 rfl) ?_
          exact W.lret hx hb hr (fun t ht _ => ⟨by rw [hR]; first | done | rfl, ht⟩) (fun _ h => absurd h List.not_mem_nil) dDg_powerOfTen_28
        · have hR := hR.trans (if_neg h12)
          refine lv_lload_n hx hb dDg_powerOfTen_15 rfl (lv_at hl 1 rfl) ?_
          refine lv_ldc2 (v := 10) hx hb hown w0 dDg_powerOfTen_16 ?_
          refine lv_lmul hx hb dDg_powerOfTen_19 ?_
          refine lv_lstore_n (lv' := [(1, .long (v1 * 10)), (0, .int (x)), (3, .int (nI (v3)))]) hx hb dDg_powerOfTen_20 rfl hl (by decide) rfl (fun ls hl => ?_)
          refine lv_iinc (k := 2) (lv' := [(3, .int (nI (v3 + 1))), (1, .long (v1 * 10)), (0, .int (x))]) hx hb dDg_powerOfTen_21 hl rfl (nI_1 _) (by decide) rfl (fun ls hl => ?_)
          refine lv_goto hx hb dDg_powerOfTen_24 rfl ?_
          exact ih4 ls (v1 * 10) (v3 + 1) (by omega) hR (by first | assumption | omega) (lv_sub hl [2, 1, 0] rfl)
  have hR := fDg_powerOfTen.eq_1 x
  refine lv_lconst (v := 1) hx hb dDg_powerOfTen_0 (by decide) ?_
  refine lv_lstore_n (lv' := [(1, .long (1)), (0, .int (x))]) hx hb dDg_powerOfTen_1 rfl hl (by decide) rfl (fun ls hl => ?_)
  refine lv_iconst (v := 0) hx hb dDg_powerOfTen_2 (by decide) ?_
  refine lv_istore_n (lv' := [(3, .int (nI (0))), (1, .long (1)), (0, .int (x))]) hx hb dDg_powerOfTen_3 rfl hl (by decide) rfl (fun ls hl => ?_)
  exact hB4 11 ls 1 0 (by omega) hR (by first | assumption | omega) (lv_sub hl [2, 1, 0] rfl)
theorem pow_loop (x : Int32) : ∀ (n : Nat) (v1 : Int64) (v3 : Nat), v3 ≤ 10 → 10 - v3 < n → v1.toInt = 10 ^ v3 → v3 ≤ x.toInt.toNat → (fDg_powerOfTen_4 n x v1 v3).toInt = 10 ^ (min x.toInt.toNat 10) := by
  intro n
  induction n with
  | zero => intro v1 v3 _ h; omega
  | succ n ih =>
    intro v1 v3 h3 hn h1 hx
    rw [fDg_powerOfTen_4.eq_2]
    by_cases hc : x ≤ nI v3
    · rw [if_pos hc, h1]
      rw [Int32.le_iff_toInt_le, nI_toInt (by omega)] at hc
      have e : v3 = min x.toInt.toNat 10 := by omega
      rw [← e]
    · rw [if_neg hc]
      rw [Int32.le_iff_toInt_le, nI_toInt (by omega)] at hc
      by_cases h10 : 10 ≤ v3
      · rw [if_pos h10, h1]
        have e : v3 = min x.toInt.toNat 10 := by omega
        rw [← e]
      · rw [if_neg h10]
        refine ih _ _ (by omega) (by omega) ?_ (by omega)
        have h9 : v3 = 0 ∨ v3 = 1 ∨ v3 = 2 ∨ v3 = 3 ∨ v3 = 4 ∨ v3 = 5 ∨ v3 = 6 ∨ v3 = 7 ∨ v3 = 8 ∨ v3 = 9 := by omega
        have e10 : (10 : Int64).toInt = 10 := by decide
        rcases h9 with rfl | rfl | rfl | rfl | rfl | rfl | rfl | rfl | rfl | rfl <;> (rw [Kit.i64_mul (by rw [h1, e10]; decide) (by rw [h1, e10]; decide), h1, e10]; decide)
theorem pow_val (x : Int32) : (fDg_powerOfTen x).toInt = 10 ^ (min x.toInt.toNat 10) := by
  rw [fDg_powerOfTen.eq_1]
  exact pow_loop x 11 1 0 (by omega) (by omega) (by decide) (by omega)
theorem f_pow_ne (x : Int32) : ¬ fDg_powerOfTen x = 0 := by
  intro h
  have h1 := pow_val x
  rw [h] at h1
  have h2 : (0 : Int64).toInt = 0 := by decide
  rw [h2] at h1
  have h3 : min x.toInt.toNat 10 ≤ 10 := by omega
  generalize min x.toInt.toNat 10 = k at h1 h3
  have h9 : k = 0 ∨ k = 1 ∨ k = 2 ∨ k = 3 ∨ k = 4 ∨ k = 5 ∨ k = 6 ∨ k = 7 ∨ k = 8 ∨ k = 9 ∨ k = 10 := by omega
  rcases h9 with rfl | rfl | rfl | rfl | rfl | rfl | rfl | rfl | rfl | rfl | rfl <;> (revert h1; decide)
theorem dDg_digitAt_0 : decode ccDg_digitAt 0 = .ok (.lload_n 0, 1) := by decide +kernel
theorem dDg_digitAt_1 : decode ccDg_digitAt 1 = .ok (.iload_n 2, 1) := by decide +kernel
theorem dDg_digitAt_2 : decode ccDg_digitAt 2 = .ok (.invokestatic 13, 3) := by decide +kernel
theorem dDg_digitAt_5 : decode ccDg_digitAt 5 = .ok (.ldiv, 1) := by decide +kernel
theorem dDg_digitAt_6 : decode ccDg_digitAt 6 = .ok (.ldc2_w 11, 3) := by decide +kernel
theorem dDg_digitAt_9 : decode ccDg_digitAt 9 = .ok (.lrem, 1) := by decide +kernel
theorem dDg_digitAt_10 : decode ccDg_digitAt 10 = .ok (.l2i, 1) := by decide +kernel
theorem dDg_digitAt_11 : decode ccDg_digitAt 11 = .ok (.ireturn, 1) := by decide +kernel
def fDg_digitAt (v : Int64) (i : Int32) : Int32 :=
  ((v / (fDg_powerOfTen i)) % 10).toInt32
set_option maxHeartbeats 4000000 in
set_option maxRecDepth 100000 in
theorem kDg_digitAt (l : Launch) (v : Int64) (i : Int32)  : Met l yDg_digitAt wsDg_digitAt { frames := 1, cells := 0, slots := 0, locals := 23 } (va_Pc [.long (v), .int (i)] (fun _ => True)) (cQr (some (.int (fDg_digitAt v i)))) 0 0 (fun _ => False) := by
  refine Met.ofW (cc := ccDg_digitAt) (maxL := 3) (ret := (some .int)) (by decide +kernel) rfl ?_
  intro p e s m args below meth c s₁ B hml hv
  obtain ⟨rfl, -⟩ := hv
  have hx := B.exec
  have hb := B.bytes
  have hr := B.returns
  have hts := atoms_spec (ws := wsDg_digitAt) B.pre
  have hown : s.vm.findClass RDg = some m.cls := findClass_of_methodNamed B.named
  have hlocks := B.notSynchronized
  have w0 := hts (.constantLong RDg 11 (10)) (List.mem_cons_of_mem _ wm3_173)
  have hl := lv_entry ([.long (v), .int (i)]) (n := 3) (Nat.le_of_ble_eq_true rfl)
  rw [lg_entry_eq]
  generalize (lg_sl ([.long (v), .int (i)]) ++ List.replicate (3 - (lg_sl ([.long (v), .int (i)])).length) Slot.unset).toArray = ls at hl ⊢
  have hl : lv_has ls 3 [(0, .long (v)), (2, .int (i))] := hl
  have hR := fDg_digitAt.eq_1 v i
  refine lv_lload_n hx hb dDg_digitAt_0 rfl (lv_at hl 0 rfl) ?_
  refine lv_iload_n hx hb dDg_digitAt_1 rfl (lv_at hl 1 rfl) ?_
  refine cl_rd (W.runS (As := [.int (i)]) (rest := [.long (v)]) ⟨hx, hb, hml, hown, hts⟩ (kDg_powerOfTen l i) (va_cwS 1 hts (gS wm3_185 wm3_171 wm1_14 wm3_172) rfl rfl rfl (by decide +kernel) ⟨Nat.le_of_ble_eq_true rfl, Nat.le_of_ble_eq_true rfl⟩) (preT) rfl rfl hl.1 rfl (lv_room (Nat.le_of_ble_eq_true rfl)) dDg_digitAt_2 ⟨Nat.le_refl _, Nat.le_refl _⟩) ?_
  refine lv_ldiv hx hb dDg_digitAt_5 (f_pow_ne i) ?_
  refine lv_ldc2 (v := 10) hx hb hown w0 dDg_digitAt_6 ?_
  refine lm_lrem hx hb dDg_digitAt_9 (by decide) ?_
  refine lv_l2i hx hb dDg_digitAt_10 rfl ?_
  exact W.iret hx hb hr (fun t ht _ => ⟨by rw [hR]; first | done | rfl, ht⟩) (fun _ h => absurd h List.not_mem_nil) dDg_digitAt_11
theorem dDg_sum_0 : decode ccDg_sum 0 = .ok (.iconst 0, 1) := by decide +kernel
theorem dDg_sum_1 : decode ccDg_sum 1 = .ok (.istore_n 2, 1) := by decide +kernel
theorem dDg_sum_2 : decode ccDg_sum 2 = .ok (.lload_n 0, 1) := by decide +kernel
theorem dDg_sum_3 : decode ccDg_sum 3 = .ok (.lstore_n 3, 1) := by decide +kernel
theorem dDg_sum_4 : decode ccDg_sum 4 = .ok (.iconst 0, 1) := by decide +kernel
theorem dDg_sum_5 : decode ccDg_sum 5 = .ok (.istore 5, 2) := by decide +kernel
theorem dDg_sum_7 : decode ccDg_sum 7 = .ok (.iload 5, 2) := by decide +kernel
theorem dDg_sum_9 : decode ccDg_sum 9 = .ok (.bipush 10, 2) := by decide +kernel
theorem dDg_sum_11 : decode ccDg_sum 11 = .ok (.if_icmp .ge 24, 3) := by decide +kernel
theorem dDg_sum_14 : decode ccDg_sum 14 = .ok (.iload_n 2, 1) := by decide +kernel
theorem dDg_sum_15 : decode ccDg_sum 15 = .ok (.lload_n 3, 1) := by decide +kernel
theorem dDg_sum_16 : decode ccDg_sum 16 = .ok (.ldc2_w 11, 3) := by decide +kernel
theorem dDg_sum_19 : decode ccDg_sum 19 = .ok (.lrem, 1) := by decide +kernel
theorem dDg_sum_20 : decode ccDg_sum 20 = .ok (.l2i, 1) := by decide +kernel
theorem dDg_sum_21 : decode ccDg_sum 21 = .ok (.iadd, 1) := by decide +kernel
theorem dDg_sum_22 : decode ccDg_sum 22 = .ok (.istore_n 2, 1) := by decide +kernel
theorem dDg_sum_23 : decode ccDg_sum 23 = .ok (.lload_n 3, 1) := by decide +kernel
theorem dDg_sum_24 : decode ccDg_sum 24 = .ok (.ldc2_w 11, 3) := by decide +kernel
theorem dDg_sum_27 : decode ccDg_sum 27 = .ok (.ldiv, 1) := by decide +kernel
theorem dDg_sum_28 : decode ccDg_sum 28 = .ok (.lstore_n 3, 1) := by decide +kernel
theorem dDg_sum_29 : decode ccDg_sum 29 = .ok (.iinc 5 1, 3) := by decide +kernel
theorem dDg_sum_32 : decode ccDg_sum 32 = .ok (.goto (-25), 3) := by decide +kernel
theorem dDg_sum_35 : decode ccDg_sum 35 = .ok (.iload_n 2, 1) := by decide +kernel
theorem dDg_sum_36 : decode ccDg_sum 36 = .ok (.ireturn, 1) := by decide +kernel
def fDg_sum_7  : Nat → Int32 → Int64 → Nat → Int32
  | 0, v2, v3, v5 => 0
  | fu + 1, v2, v3, v5 => (if 10 ≤ v5 then v2 else fDg_sum_7 fu (v2 + ((v3 % 10).toInt32)) (v3 / 10) (v5 + 1))
def fDg_sum (v : Int64) : Int32 :=
  fDg_sum_7 11 0 v 0
set_option maxHeartbeats 4000000 in
set_option maxRecDepth 100000 in
theorem kDg_sum (l : Launch) (v : Int64)  : Met l yDg_sum wsDg_sum { frames := 0, cells := 0, slots := 0, locals := 0 } (va_Pc [.long (v)] (fun _ => True)) (cQr (some (.int (fDg_sum v)))) 0 0 (fun _ => False) := by
  refine Met.ofW (cc := ccDg_sum) (maxL := 6) (ret := (some .int)) (by decide +kernel) rfl ?_
  intro p e s m args below meth c s₁ B hml hv
  obtain ⟨rfl, -⟩ := hv
  have hx := B.exec
  have hb := B.bytes
  have hr := B.returns
  have hts := atoms_spec (ws := wsDg_sum) B.pre
  have hown : s.vm.findClass RDg = some m.cls := findClass_of_methodNamed B.named
  have hlocks := B.notSynchronized
  have w0 := hts (.constantLong RDg 11 (10)) (List.mem_cons_of_mem _ wm3_173)
  have hl := lv_entry ([.long (v)]) (n := 6) (Nat.le_of_ble_eq_true rfl)
  rw [lg_entry_eq]
  generalize (lg_sl ([.long (v)]) ++ List.replicate (6 - (lg_sl ([.long (v)])).length) Slot.unset).toArray = ls at hl ⊢
  have hl : lv_has ls 6 [(0, .long (v))] := hl
  have hB7 : ∀ (n7 : Nat) (ls : Array Slot) (v2 : Int32) (v3 : Int64) (v5 : Nat), 10 - v5 < n7 → fDg_sum v = fDg_sum_7 n7 v2 v3 v5 → (v5 ≤ 10) → lv_has ls 6 [(2, .int (v2)), (3, .long (v3)), (5, .int (nI (v5)))] → W p l e (headSpec wsDg_sum { frames := 0, cells := 0, slots := 0, locals := 0 }).room s m ([.long (v)] : List Value).toArray below meth c s.heap [] 0 0 (MQ below (cQr (some (.int (fDg_sum v)))) ([.long (v)] : List Value).toArray s 0 0 (fun _ => False)) (F0 m 7 ls []) := by
    intro n7
    induction n7 with
    | zero => intro ls v2 v3 v5 hn7; exact absurd hn7 (Nat.not_lt_zero _)
    | succ n7 ih7 =>
      intro ls v2 v3 v5 hn7 hR h5 hl
      rw [fDg_sum_7.eq_2] at hR
      refine lv_iload hx hb dDg_sum_7 (lv_at hl 2 rfl) ?_
      refine lv_bipush (v := 10) hx hb dDg_sum_9 (by decide) ?_
      refine wn_ge (x := v5) (y := 10) hx hb (by omega) (by omega) dDg_sum_11 rfl (fun h11 => ?_) (fun h11 => ?_)
      · have hR := hR.trans (if_pos h11)
        refine lv_iload_n hx hb dDg_sum_35 rfl (lv_at hl 0 rfl) ?_
        exact W.iret hx hb hr (fun t ht _ => ⟨by rw [hR]; first | done | rfl, ht⟩) (fun _ h => absurd h List.not_mem_nil) dDg_sum_36
      · have hR := hR.trans (if_neg h11)
        refine lv_iload_n hx hb dDg_sum_14 rfl (lv_at hl 0 rfl) ?_
        refine lv_lload_n hx hb dDg_sum_15 rfl (lv_at hl 1 rfl) ?_
        refine lv_ldc2 (v := 10) hx hb hown w0 dDg_sum_16 ?_
        refine lm_lrem hx hb dDg_sum_19 (by decide) ?_
        refine lv_l2i hx hb dDg_sum_20 rfl ?_
        refine lv_iadd hx hb dDg_sum_21 ?_
        refine lv_istore_n (lv' := [(2, .int (v2 + ((v3 % 10).toInt32))), (3, .long (v3)), (5, .int (nI (v5)))]) hx hb dDg_sum_22 rfl hl (by decide) rfl (fun ls hl => ?_)
        refine lv_lload_n hx hb dDg_sum_23 rfl (lv_at hl 1 rfl) ?_
        refine lv_ldc2 (v := 10) hx hb hown w0 dDg_sum_24 ?_
        refine lv_ldiv hx hb dDg_sum_27 (by decide) ?_
        refine lv_lstore_n (lv' := [(3, .long (v3 / 10)), (2, .int (v2 + ((v3 % 10).toInt32))), (5, .int (nI (v5)))]) hx hb dDg_sum_28 rfl hl (by decide) rfl (fun ls hl => ?_)
        refine lv_iinc (k := 2) (lv' := [(5, .int (nI (v5 + 1))), (3, .long (v3 / 10)), (2, .int (v2 + ((v3 % 10).toInt32)))]) hx hb dDg_sum_29 hl rfl (nI_1 _) (by decide) rfl (fun ls hl => ?_)
        refine lv_goto hx hb dDg_sum_32 rfl ?_
        exact ih7 ls (v2 + ((v3 % 10).toInt32)) (v3 / 10) (v5 + 1) (by omega) hR (by first | assumption | omega) (lv_sub hl [2, 1, 0] rfl)
  have hR := fDg_sum.eq_1 v
  refine lv_iconst (v := 0) hx hb dDg_sum_0 (by decide) ?_
  refine lv_istore_n (lv' := [(2, .int (0)), (0, .long (v))]) hx hb dDg_sum_1 rfl hl (by decide) rfl (fun ls hl => ?_)
  refine lv_lload_n hx hb dDg_sum_2 rfl (lv_at hl 1 rfl) ?_
  refine lv_lstore_n (lv' := [(3, .long (v)), (2, .int (0)), (0, .long (v))]) hx hb dDg_sum_3 rfl hl (by decide) rfl (fun ls hl => ?_)
  refine lv_iconst (v := 0) hx hb dDg_sum_4 (by decide) ?_
  refine lv_istore (lv' := [(5, .int (nI (0))), (3, .long (v)), (2, .int (0)), (0, .long (v))]) hx hb dDg_sum_5 hl (by decide) rfl (fun ls hl => ?_)
  exact hB7 11 ls 0 v 0 (by omega) hR (by first | assumption | omega) (lv_sub hl [2, 1, 0] rfl)
theorem dDg_operationOf_0 : decode ccDg_operationOf 0 = .ok (.lload_n 0, 1) := by decide +kernel
theorem dDg_operationOf_1 : decode ccDg_operationOf 1 = .ok (.ldc2_w 17, 3) := by decide +kernel
theorem dDg_operationOf_4 : decode ccDg_operationOf 4 = .ok (.ldiv, 1) := by decide +kernel
theorem dDg_operationOf_5 : decode ccDg_operationOf 5 = .ok (.l2i, 1) := by decide +kernel
theorem dDg_operationOf_6 : decode ccDg_operationOf 6 = .ok (.ireturn, 1) := by decide +kernel
def fDg_operationOf (v : Int64) : Int32 :=
  (v / 100000000).toInt32
set_option maxHeartbeats 4000000 in
set_option maxRecDepth 100000 in
theorem kDg_operationOf (l : Launch) (v : Int64)  : Met l yDg_operationOf wsDg_operationOf { frames := 0, cells := 0, slots := 0, locals := 0 } (va_Pc [.long (v)] (fun _ => True)) (cQr (some (.int (fDg_operationOf v)))) 0 0 (fun _ => False) := by
  refine Met.ofW (cc := ccDg_operationOf) (maxL := 2) (ret := (some .int)) (by decide +kernel) rfl ?_
  intro p e s m args below meth c s₁ B hml hv
  obtain ⟨rfl, -⟩ := hv
  have hx := B.exec
  have hb := B.bytes
  have hr := B.returns
  have hts := atoms_spec (ws := wsDg_operationOf) B.pre
  have hown : s.vm.findClass RDg = some m.cls := findClass_of_methodNamed B.named
  have hlocks := B.notSynchronized
  have w0 := hts (.constantLong RDg 17 (100000000)) (List.mem_cons_of_mem _ wm3_79)
  have hl := lv_entry ([.long (v)]) (n := 2) (Nat.le_of_ble_eq_true rfl)
  rw [lg_entry_eq]
  generalize (lg_sl ([.long (v)]) ++ List.replicate (2 - (lg_sl ([.long (v)])).length) Slot.unset).toArray = ls at hl ⊢
  have hl : lv_has ls 2 [(0, .long (v))] := hl
  have hR := fDg_operationOf.eq_1 v
  refine lv_lload_n hx hb dDg_operationOf_0 rfl (lv_at hl 0 rfl) ?_
  refine lv_ldc2 (v := 100000000) hx hb hown w0 dDg_operationOf_1 ?_
  refine lv_ldiv hx hb dDg_operationOf_4 (by decide) ?_
  refine lv_l2i hx hb dDg_operationOf_5 rfl ?_
  exact W.iret hx hb hr (fun t ht _ => ⟨by rw [hR]; first | done | rfl, ht⟩) (fun _ h => absurd h List.not_mem_nil) dDg_operationOf_6
theorem dDg_dataAddressOf_0 : decode ccDg_dataAddressOf 0 = .ok (.lload_n 0, 1) := by decide +kernel
theorem dDg_dataAddressOf_1 : decode ccDg_dataAddressOf 1 = .ok (.ldc2_w 19, 3) := by decide +kernel
theorem dDg_dataAddressOf_4 : decode ccDg_dataAddressOf 4 = .ok (.ldiv, 1) := by decide +kernel
theorem dDg_dataAddressOf_5 : decode ccDg_dataAddressOf 5 = .ok (.ldc2_w 19, 3) := by decide +kernel
theorem dDg_dataAddressOf_8 : decode ccDg_dataAddressOf 8 = .ok (.lrem, 1) := by decide +kernel
theorem dDg_dataAddressOf_9 : decode ccDg_dataAddressOf 9 = .ok (.l2i, 1) := by decide +kernel
theorem dDg_dataAddressOf_10 : decode ccDg_dataAddressOf 10 = .ok (.ireturn, 1) := by decide +kernel
def fDg_dataAddressOf (v : Int64) : Int32 :=
  ((v / 10000) % 10000).toInt32
set_option maxHeartbeats 4000000 in
set_option maxRecDepth 100000 in
theorem kDg_dataAddressOf (l : Launch) (v : Int64)  : Met l yDg_dataAddressOf wsDg_dataAddressOf { frames := 0, cells := 0, slots := 0, locals := 0 } (va_Pc [.long (v)] (fun _ => True)) (cQr (some (.int (fDg_dataAddressOf v)))) 0 0 (fun _ => False) := by
  refine Met.ofW (cc := ccDg_dataAddressOf) (maxL := 2) (ret := (some .int)) (by decide +kernel) rfl ?_
  intro p e s m args below meth c s₁ B hml hv
  obtain ⟨rfl, -⟩ := hv
  have hx := B.exec
  have hb := B.bytes
  have hr := B.returns
  have hts := atoms_spec (ws := wsDg_dataAddressOf) B.pre
  have hown : s.vm.findClass RDg = some m.cls := findClass_of_methodNamed B.named
  have hlocks := B.notSynchronized
  have w0 := hts (.constantLong RDg 19 (10000)) (List.mem_cons_of_mem _ wm3_80)
  have hl := lv_entry ([.long (v)]) (n := 2) (Nat.le_of_ble_eq_true rfl)
  rw [lg_entry_eq]
  generalize (lg_sl ([.long (v)]) ++ List.replicate (2 - (lg_sl ([.long (v)])).length) Slot.unset).toArray = ls at hl ⊢
  have hl : lv_has ls 2 [(0, .long (v))] := hl
  have hR := fDg_dataAddressOf.eq_1 v
  refine lv_lload_n hx hb dDg_dataAddressOf_0 rfl (lv_at hl 0 rfl) ?_
  refine lv_ldc2 (v := 10000) hx hb hown w0 dDg_dataAddressOf_1 ?_
  refine lv_ldiv hx hb dDg_dataAddressOf_4 (by decide) ?_
  refine lv_ldc2 (v := 10000) hx hb hown w0 dDg_dataAddressOf_5 ?_
  refine lm_lrem hx hb dDg_dataAddressOf_8 (by decide) ?_
  refine lv_l2i hx hb dDg_dataAddressOf_9 rfl ?_
  exact W.iret hx hb hr (fun t ht _ => ⟨by rw [hR]; first | done | rfl, ht⟩) (fun _ h => absurd h List.not_mem_nil) dDg_dataAddressOf_10
theorem dDg_nextAddressOf_0 : decode ccDg_nextAddressOf 0 = .ok (.lload_n 0, 1) := by decide +kernel
theorem dDg_nextAddressOf_1 : decode ccDg_nextAddressOf 1 = .ok (.ldc2_w 19, 3) := by decide +kernel
theorem dDg_nextAddressOf_4 : decode ccDg_nextAddressOf 4 = .ok (.lrem, 1) := by decide +kernel
theorem dDg_nextAddressOf_5 : decode ccDg_nextAddressOf 5 = .ok (.l2i, 1) := by decide +kernel
theorem dDg_nextAddressOf_6 : decode ccDg_nextAddressOf 6 = .ok (.ireturn, 1) := by decide +kernel
def fDg_nextAddressOf (v : Int64) : Int32 :=
  (v % 10000).toInt32
set_option maxHeartbeats 4000000 in
set_option maxRecDepth 100000 in
theorem kDg_nextAddressOf (l : Launch) (v : Int64)  : Met l yDg_nextAddressOf wsDg_nextAddressOf { frames := 0, cells := 0, slots := 0, locals := 0 } (va_Pc [.long (v)] (fun _ => True)) (cQr (some (.int (fDg_nextAddressOf v)))) 0 0 (fun _ => False) := by
  refine Met.ofW (cc := ccDg_nextAddressOf) (maxL := 2) (ret := (some .int)) (by decide +kernel) rfl ?_
  intro p e s m args below meth c s₁ B hml hv
  obtain ⟨rfl, -⟩ := hv
  have hx := B.exec
  have hb := B.bytes
  have hr := B.returns
  have hts := atoms_spec (ws := wsDg_nextAddressOf) B.pre
  have hown : s.vm.findClass RDg = some m.cls := findClass_of_methodNamed B.named
  have hlocks := B.notSynchronized
  have w0 := hts (.constantLong RDg 19 (10000)) (List.mem_cons_of_mem _ wm3_80)
  have hl := lv_entry ([.long (v)]) (n := 2) (Nat.le_of_ble_eq_true rfl)
  rw [lg_entry_eq]
  generalize (lg_sl ([.long (v)]) ++ List.replicate (2 - (lg_sl ([.long (v)])).length) Slot.unset).toArray = ls at hl ⊢
  have hl : lv_has ls 2 [(0, .long (v))] := hl
  have hR := fDg_nextAddressOf.eq_1 v
  refine lv_lload_n hx hb dDg_nextAddressOf_0 rfl (lv_at hl 0 rfl) ?_
  refine lv_ldc2 (v := 10000) hx hb hown w0 dDg_nextAddressOf_1 ?_
  refine lm_lrem hx hb dDg_nextAddressOf_4 (by decide) ?_
  refine lv_l2i hx hb dDg_nextAddressOf_5 rfl ?_
  exact W.iret hx hb hr (fun t ht _ => ⟨by rw [hR]; first | done | rfl, ht⟩) (fun _ h => absurd h List.not_mem_nil) dDg_nextAddressOf_6
theorem dDg_instruction_0 : decode ccDg_instruction 0 = .ok (.iload_n 0, 1) := by decide +kernel
theorem dDg_instruction_1 : decode ccDg_instruction 1 = .ok (.i2l, 1) := by decide +kernel
theorem dDg_instruction_2 : decode ccDg_instruction 2 = .ok (.ldc2_w 17, 3) := by decide +kernel
theorem dDg_instruction_5 : decode ccDg_instruction 5 = .ok (.lmul, 1) := by decide +kernel
theorem dDg_instruction_6 : decode ccDg_instruction 6 = .ok (.iload_n 1, 1) := by decide +kernel
theorem dDg_instruction_7 : decode ccDg_instruction 7 = .ok (.i2l, 1) := by decide +kernel
theorem dDg_instruction_8 : decode ccDg_instruction 8 = .ok (.ldc2_w 19, 3) := by decide +kernel
theorem dDg_instruction_11 : decode ccDg_instruction 11 = .ok (.lmul, 1) := by decide +kernel
theorem dDg_instruction_12 : decode ccDg_instruction 12 = .ok (.ladd, 1) := by decide +kernel
theorem dDg_instruction_13 : decode ccDg_instruction 13 = .ok (.iload_n 2, 1) := by decide +kernel
theorem dDg_instruction_14 : decode ccDg_instruction 14 = .ok (.i2l, 1) := by decide +kernel
theorem dDg_instruction_15 : decode ccDg_instruction 15 = .ok (.ladd, 1) := by decide +kernel
theorem dDg_instruction_16 : decode ccDg_instruction 16 = .ok (.lreturn, 1) := by decide +kernel
def fDg_instruction (o : Int32) (d : Int32) (x : Int32) : Int64 :=
  ((o.toInt64 * 100000000) + (d.toInt64 * 10000)) + x.toInt64
set_option maxHeartbeats 4000000 in
set_option maxRecDepth 100000 in
theorem kDg_instruction (l : Launch) (o : Int32) (d : Int32) (x : Int32)  : Met l yDg_instruction wsDg_instruction { frames := 0, cells := 0, slots := 0, locals := 0 } (va_Pc [.int (o), .int (d), .int (x)] (fun _ => True)) (cQr (some (.long (fDg_instruction o d x)))) 0 0 (fun _ => False) := by
  refine Met.ofW (cc := ccDg_instruction) (maxL := 3) (ret := (some .long)) (by decide +kernel) rfl ?_
  intro p e s m args below meth c s₁ B hml hv
  obtain ⟨rfl, -⟩ := hv
  have hx := B.exec
  have hb := B.bytes
  have hr := B.returns
  have hts := atoms_spec (ws := wsDg_instruction) B.pre
  have hown : s.vm.findClass RDg = some m.cls := findClass_of_methodNamed B.named
  have hlocks := B.notSynchronized
  have w0 := hts (.constantLong RDg 17 (100000000)) (List.mem_cons_of_mem _ wm3_79)
  have w1 := hts (.constantLong RDg 19 (10000)) (List.mem_cons_of_mem _ wm3_80)
  have hl := lv_entry ([.int (o), .int (d), .int (x)]) (n := 3) (Nat.le_of_ble_eq_true rfl)
  rw [lg_entry_eq]
  generalize (lg_sl ([.int (o), .int (d), .int (x)]) ++ List.replicate (3 - (lg_sl ([.int (o), .int (d), .int (x)])).length) Slot.unset).toArray = ls at hl ⊢
  have hl : lv_has ls 3 [(0, .int (o)), (1, .int (d)), (2, .int (x))] := hl
  have hR := fDg_instruction.eq_1 o d x
  refine lv_iload_n hx hb dDg_instruction_0 rfl (lv_at hl 0 rfl) ?_
  refine lv_i2l hx hb dDg_instruction_1 rfl ?_
  refine lv_ldc2 (v := 100000000) hx hb hown w0 dDg_instruction_2 ?_
  refine lv_lmul hx hb dDg_instruction_5 ?_
  refine lv_iload_n hx hb dDg_instruction_6 rfl (lv_at hl 1 rfl) ?_
  refine lv_i2l hx hb dDg_instruction_7 rfl ?_
  refine lv_ldc2 (v := 10000) hx hb hown w1 dDg_instruction_8 ?_
  refine lv_lmul hx hb dDg_instruction_11 ?_
  refine lv_ladd hx hb dDg_instruction_12 ?_
  refine lv_iload_n hx hb dDg_instruction_13 rfl (lv_at hl 2 rfl) ?_
  refine lv_i2l hx hb dDg_instruction_14 rfl ?_
  refine lv_ladd hx hb dDg_instruction_15 ?_
  exact W.lret hx hb hr (fun t ht _ => ⟨by rw [hR]; first | done | rfl, ht⟩) (fun _ h => absurd h List.not_mem_nil) dDg_instruction_16
theorem dDg_withDataAddress_0 : decode ccDg_withDataAddress 0 = .ok (.lload_n 0, 1) := by decide +kernel
theorem dDg_withDataAddress_1 : decode ccDg_withDataAddress 1 = .ok (.ldc2_w 19, 3) := by decide +kernel
theorem dDg_withDataAddress_4 : decode ccDg_withDataAddress 4 = .ok (.ldiv, 1) := by decide +kernel
theorem dDg_withDataAddress_5 : decode ccDg_withDataAddress 5 = .ok (.ldc2_w 19, 3) := by decide +kernel
theorem dDg_withDataAddress_8 : decode ccDg_withDataAddress 8 = .ok (.lrem, 1) := by decide +kernel
theorem dDg_withDataAddress_9 : decode ccDg_withDataAddress 9 = .ok (.lstore_n 3, 1) := by decide +kernel
theorem dDg_withDataAddress_10 : decode ccDg_withDataAddress 10 = .ok (.lload_n 0, 1) := by decide +kernel
theorem dDg_withDataAddress_11 : decode ccDg_withDataAddress 11 = .ok (.iload_n 2, 1) := by decide +kernel
theorem dDg_withDataAddress_12 : decode ccDg_withDataAddress 12 = .ok (.i2l, 1) := by decide +kernel
theorem dDg_withDataAddress_13 : decode ccDg_withDataAddress 13 = .ok (.lload_n 3, 1) := by decide +kernel
theorem dDg_withDataAddress_14 : decode ccDg_withDataAddress 14 = .ok (.lsub, 1) := by decide +kernel
theorem dDg_withDataAddress_15 : decode ccDg_withDataAddress 15 = .ok (.ldc2_w 19, 3) := by decide +kernel
theorem dDg_withDataAddress_18 : decode ccDg_withDataAddress 18 = .ok (.lmul, 1) := by decide +kernel
theorem dDg_withDataAddress_19 : decode ccDg_withDataAddress 19 = .ok (.ladd, 1) := by decide +kernel
theorem dDg_withDataAddress_20 : decode ccDg_withDataAddress 20 = .ok (.lreturn, 1) := by decide +kernel
def fDg_withDataAddress (v : Int64) (d : Int32) : Int64 :=
  v + ((d.toInt64 - ((v / 10000) % 10000)) * 10000)
set_option maxHeartbeats 4000000 in
set_option maxRecDepth 100000 in
theorem kDg_withDataAddress (l : Launch) (v : Int64) (d : Int32)  : Met l yDg_withDataAddress wsDg_withDataAddress { frames := 0, cells := 0, slots := 0, locals := 0 } (va_Pc [.long (v), .int (d)] (fun _ => True)) (cQr (some (.long (fDg_withDataAddress v d)))) 0 0 (fun _ => False) := by
  refine Met.ofW (cc := ccDg_withDataAddress) (maxL := 5) (ret := (some .long)) (by decide +kernel) rfl ?_
  intro p e s m args below meth c s₁ B hml hv
  obtain ⟨rfl, -⟩ := hv
  have hx := B.exec
  have hb := B.bytes
  have hr := B.returns
  have hts := atoms_spec (ws := wsDg_withDataAddress) B.pre
  have hown : s.vm.findClass RDg = some m.cls := findClass_of_methodNamed B.named
  have hlocks := B.notSynchronized
  have w0 := hts (.constantLong RDg 19 (10000)) (List.mem_cons_of_mem _ wm3_80)
  have hl := lv_entry ([.long (v), .int (d)]) (n := 5) (Nat.le_of_ble_eq_true rfl)
  rw [lg_entry_eq]
  generalize (lg_sl ([.long (v), .int (d)]) ++ List.replicate (5 - (lg_sl ([.long (v), .int (d)])).length) Slot.unset).toArray = ls at hl ⊢
  have hl : lv_has ls 5 [(0, .long (v)), (2, .int (d))] := hl
  have hR := fDg_withDataAddress.eq_1 v d
  refine lv_lload_n hx hb dDg_withDataAddress_0 rfl (lv_at hl 0 rfl) ?_
  refine lv_ldc2 (v := 10000) hx hb hown w0 dDg_withDataAddress_1 ?_
  refine lv_ldiv hx hb dDg_withDataAddress_4 (by decide) ?_
  refine lv_ldc2 (v := 10000) hx hb hown w0 dDg_withDataAddress_5 ?_
  refine lm_lrem hx hb dDg_withDataAddress_8 (by decide) ?_
  refine lv_lstore_n (lv' := [(3, .long ((v / 10000) % 10000)), (0, .long (v)), (2, .int (d))]) hx hb dDg_withDataAddress_9 rfl hl (by decide) rfl (fun ls hl => ?_)
  refine lv_lload_n hx hb dDg_withDataAddress_10 rfl (lv_at hl 1 rfl) ?_
  refine lv_iload_n hx hb dDg_withDataAddress_11 rfl (lv_at hl 2 rfl) ?_
  refine lv_i2l hx hb dDg_withDataAddress_12 rfl ?_
  refine lv_lload_n hx hb dDg_withDataAddress_13 rfl (lv_at hl 0 rfl) ?_
  refine lv_lsub hx hb dDg_withDataAddress_14 ?_
  refine lv_ldc2 (v := 10000) hx hb hown w0 dDg_withDataAddress_15 ?_
  refine lv_lmul hx hb dDg_withDataAddress_18 ?_
  refine lv_ladd hx hb dDg_withDataAddress_19 ?_
  exact W.lret hx hb hr (fun t ht _ => ⟨by rw [hR]; first | done | rfl, ht⟩) (fun _ h => absurd h List.not_mem_nil) dDg_withDataAddress_20
theorem dMa_floorDiv_0 : decode ccMa_floorDiv 0 = .ok (.lload_n 0, 1) := by decide +kernel
theorem dMa_floorDiv_1 : decode ccMa_floorDiv 1 = .ok (.lload_n 2, 1) := by decide +kernel
theorem dMa_floorDiv_2 : decode ccMa_floorDiv 2 = .ok (.ldiv, 1) := by decide +kernel
theorem dMa_floorDiv_3 : decode ccMa_floorDiv 3 = .ok (.lstore 4, 2) := by decide +kernel
theorem dMa_floorDiv_5 : decode ccMa_floorDiv 5 = .ok (.lload_n 0, 1) := by decide +kernel
theorem dMa_floorDiv_6 : decode ccMa_floorDiv 6 = .ok (.lload_n 2, 1) := by decide +kernel
theorem dMa_floorDiv_7 : decode ccMa_floorDiv 7 = .ok (.lxor, 1) := by decide +kernel
theorem dMa_floorDiv_8 : decode ccMa_floorDiv 8 = .ok (.lconst 0, 1) := by decide +kernel
theorem dMa_floorDiv_9 : decode ccMa_floorDiv 9 = .ok (.lcmp, 1) := by decide +kernel
theorem dMa_floorDiv_10 : decode ccMa_floorDiv 10 = .ok (.ifCond .ge 17, 3) := by decide +kernel
theorem dMa_floorDiv_13 : decode ccMa_floorDiv 13 = .ok (.lload 4, 2) := by decide +kernel
theorem dMa_floorDiv_15 : decode ccMa_floorDiv 15 = .ok (.lload_n 2, 1) := by decide +kernel
theorem dMa_floorDiv_16 : decode ccMa_floorDiv 16 = .ok (.lmul, 1) := by decide +kernel
theorem dMa_floorDiv_17 : decode ccMa_floorDiv 17 = .ok (.lload_n 0, 1) := by decide +kernel
theorem dMa_floorDiv_18 : decode ccMa_floorDiv 18 = .ok (.lcmp, 1) := by decide +kernel
theorem dMa_floorDiv_19 : decode ccMa_floorDiv 19 = .ok (.ifCond .eq 8, 3) := by decide +kernel
theorem dMa_floorDiv_22 : decode ccMa_floorDiv 22 = .ok (.lload 4, 2) := by decide +kernel
theorem dMa_floorDiv_24 : decode ccMa_floorDiv 24 = .ok (.lconst 1, 1) := by decide +kernel
theorem dMa_floorDiv_25 : decode ccMa_floorDiv 25 = .ok (.lsub, 1) := by decide +kernel
theorem dMa_floorDiv_26 : decode ccMa_floorDiv 26 = .ok (.lreturn, 1) := by decide +kernel
theorem dMa_floorDiv_27 : decode ccMa_floorDiv 27 = .ok (.lload 4, 2) := by decide +kernel
theorem dMa_floorDiv_29 : decode ccMa_floorDiv 29 = .ok (.lreturn, 1) := by decide +kernel
def fMa_floorDiv (x : Int64) (y : Int64) : Int64 :=
  (if 0 ≤ (x ^^^ y) then x / y else (if ((x / y) * y) = x then x / y else (x / y) - 1))
set_option maxHeartbeats 4000000 in
set_option maxRecDepth 100000 in
theorem kMa_floorDiv (l : Launch) (x : Int64) (y : Int64) (hy : ¬ y = 0) : Met l yMa_floorDiv wsMa_floorDiv { frames := 0, cells := 0, slots := 0, locals := 0 } (va_Pc [.long (x), .long (y)] (fun _ => True)) (cQr (some (.long (fMa_floorDiv x y)))) 0 0 (fun _ => False) := by
  refine va_MetF (cc := ccMa_floorDiv) (maxL := 6) (ret := (some .long)) (by decide +kernel) rfl ?_
  intro p e s m args below meth c s₁ B hml hv
  obtain ⟨rfl, -⟩ := hv
  have hx := B.exec
  have hb := B.bytes
  have hr := B.returns
  have hts := atoms_spec (ws := wsMa_floorDiv) B.pre
  have hown : s.vm.findClass RMa = some m.cls := findClass_of_methodNamed B.named
  have hlocks := B.notSynchronized
  have hl := lv_entry ([.long (x), .long (y)]) (n := 6) (Nat.le_of_ble_eq_true rfl)
  rw [lg_entry_eq]
  generalize (lg_sl ([.long (x), .long (y)]) ++ List.replicate (6 - (lg_sl ([.long (x), .long (y)])).length) Slot.unset).toArray = ls at hl ⊢
  have hl : lv_has ls 6 [(0, .long (x)), (2, .long (y))] := hl
  have hR := fMa_floorDiv.eq_1 x y
  refine lv_lload_n hx hb dMa_floorDiv_0 rfl (lv_at hl 0 rfl) ?_
  refine lv_lload_n hx hb dMa_floorDiv_1 rfl (lv_at hl 1 rfl) ?_
  refine lv_ldiv hx hb dMa_floorDiv_2 hy ?_
  refine lv_lstore (lv' := [(4, .long (x / y)), (0, .long (x)), (2, .long (y))]) hx hb dMa_floorDiv_3 hl (by decide) rfl (fun ls hl => ?_)
  refine lv_lload_n hx hb dMa_floorDiv_5 rfl (lv_at hl 1 rfl) ?_
  refine lv_lload_n hx hb dMa_floorDiv_6 rfl (lv_at hl 2 rfl) ?_
  refine lv_lxor hx hb dMa_floorDiv_7 ?_
  refine lv_lconst (v := 0) hx hb dMa_floorDiv_8 (by decide) ?_
  refine lc_ge hx hb dMa_floorDiv_9 dMa_floorDiv_10 rfl (fun h9 => ?_) (fun h9 => ?_)
  · have hR := hR.trans (if_pos h9)
    refine lv_lload hx hb dMa_floorDiv_27 (lv_at hl 0 rfl) ?_
    exact W.lret hx hb hr (fun t ht _ => ⟨by rw [hR]; first | done | rfl, ht⟩) (fun _ h => absurd h List.not_mem_nil) dMa_floorDiv_29
  · have hR := hR.trans (if_neg h9)
    refine lv_lload hx hb dMa_floorDiv_13 (lv_at hl 0 rfl) ?_
    refine lv_lload_n hx hb dMa_floorDiv_15 rfl (lv_at hl 2 rfl) ?_
    refine lv_lmul hx hb dMa_floorDiv_16 ?_
    refine lv_lload_n hx hb dMa_floorDiv_17 rfl (lv_at hl 1 rfl) ?_
    refine lc_eq hx hb dMa_floorDiv_18 dMa_floorDiv_19 rfl (fun h18 => ?_) (fun h18 => ?_)
    · have hR := hR.trans (if_pos h18)
      refine lv_lload hx hb dMa_floorDiv_27 (lv_at hl 0 rfl) ?_
      exact W.lret hx hb hr (fun t ht _ => ⟨by rw [hR]; first | done | rfl, ht⟩) (fun _ h => absurd h List.not_mem_nil) dMa_floorDiv_29
    · have hR := hR.trans (if_neg h18)
      refine lv_lload hx hb dMa_floorDiv_22 (lv_at hl 0 rfl) ?_
      refine lv_lconst (v := 1) hx hb dMa_floorDiv_24 (by decide) ?_
      refine lv_lsub hx hb dMa_floorDiv_25 ?_
      exact W.lret hx hb hr (fun t ht _ => ⟨by rw [hR]; first | done | rfl, ht⟩) (fun _ h => absurd h List.not_mem_nil) dMa_floorDiv_26
theorem dMa_floorMod_0 : decode ccMa_floorMod 0 = .ok (.lload_n 0, 1) := by decide +kernel
theorem dMa_floorMod_1 : decode ccMa_floorMod 1 = .ok (.lload_n 2, 1) := by decide +kernel
theorem dMa_floorMod_2 : decode ccMa_floorMod 2 = .ok (.lrem, 1) := by decide +kernel
theorem dMa_floorMod_3 : decode ccMa_floorMod 3 = .ok (.lstore 4, 2) := by decide +kernel
theorem dMa_floorMod_5 : decode ccMa_floorMod 5 = .ok (.lload_n 0, 1) := by decide +kernel
theorem dMa_floorMod_6 : decode ccMa_floorMod 6 = .ok (.lload_n 2, 1) := by decide +kernel
theorem dMa_floorMod_7 : decode ccMa_floorMod 7 = .ok (.lxor, 1) := by decide +kernel
theorem dMa_floorMod_8 : decode ccMa_floorMod 8 = .ok (.lconst 0, 1) := by decide +kernel
theorem dMa_floorMod_9 : decode ccMa_floorMod 9 = .ok (.lcmp, 1) := by decide +kernel
theorem dMa_floorMod_10 : decode ccMa_floorMod 10 = .ok (.ifCond .ge 15, 3) := by decide +kernel
theorem dMa_floorMod_13 : decode ccMa_floorMod 13 = .ok (.lload 4, 2) := by decide +kernel
theorem dMa_floorMod_15 : decode ccMa_floorMod 15 = .ok (.lconst 0, 1) := by decide +kernel
theorem dMa_floorMod_16 : decode ccMa_floorMod 16 = .ok (.lcmp, 1) := by decide +kernel
theorem dMa_floorMod_17 : decode ccMa_floorMod 17 = .ok (.ifCond .eq 8, 3) := by decide +kernel
theorem dMa_floorMod_20 : decode ccMa_floorMod 20 = .ok (.lload 4, 2) := by decide +kernel
theorem dMa_floorMod_22 : decode ccMa_floorMod 22 = .ok (.lload_n 2, 1) := by decide +kernel
theorem dMa_floorMod_23 : decode ccMa_floorMod 23 = .ok (.ladd, 1) := by decide +kernel
theorem dMa_floorMod_24 : decode ccMa_floorMod 24 = .ok (.lreturn, 1) := by decide +kernel
theorem dMa_floorMod_25 : decode ccMa_floorMod 25 = .ok (.lload 4, 2) := by decide +kernel
theorem dMa_floorMod_27 : decode ccMa_floorMod 27 = .ok (.lreturn, 1) := by decide +kernel
def fMa_floorMod (x : Int64) (y : Int64) : Int64 :=
  (if 0 ≤ (x ^^^ y) then x % y else (if (x % y) = 0 then x % y else (x % y) + y))
set_option maxHeartbeats 4000000 in
set_option maxRecDepth 100000 in
theorem kMa_floorMod (l : Launch) (x : Int64) (y : Int64) (hy : ¬ y = 0) : Met l yMa_floorMod wsMa_floorMod { frames := 0, cells := 0, slots := 0, locals := 0 } (va_Pc [.long (x), .long (y)] (fun _ => True)) (cQr (some (.long (fMa_floorMod x y)))) 0 0 (fun _ => False) := by
  refine va_MetF (cc := ccMa_floorMod) (maxL := 6) (ret := (some .long)) (by decide +kernel) rfl ?_
  intro p e s m args below meth c s₁ B hml hv
  obtain ⟨rfl, -⟩ := hv
  have hx := B.exec
  have hb := B.bytes
  have hr := B.returns
  have hts := atoms_spec (ws := wsMa_floorMod) B.pre
  have hown : s.vm.findClass RMa = some m.cls := findClass_of_methodNamed B.named
  have hlocks := B.notSynchronized
  have hl := lv_entry ([.long (x), .long (y)]) (n := 6) (Nat.le_of_ble_eq_true rfl)
  rw [lg_entry_eq]
  generalize (lg_sl ([.long (x), .long (y)]) ++ List.replicate (6 - (lg_sl ([.long (x), .long (y)])).length) Slot.unset).toArray = ls at hl ⊢
  have hl : lv_has ls 6 [(0, .long (x)), (2, .long (y))] := hl
  have hR := fMa_floorMod.eq_1 x y
  refine lv_lload_n hx hb dMa_floorMod_0 rfl (lv_at hl 0 rfl) ?_
  refine lv_lload_n hx hb dMa_floorMod_1 rfl (lv_at hl 1 rfl) ?_
  refine lm_lrem hx hb dMa_floorMod_2 hy ?_
  refine lv_lstore (lv' := [(4, .long (x % y)), (0, .long (x)), (2, .long (y))]) hx hb dMa_floorMod_3 hl (by decide) rfl (fun ls hl => ?_)
  refine lv_lload_n hx hb dMa_floorMod_5 rfl (lv_at hl 1 rfl) ?_
  refine lv_lload_n hx hb dMa_floorMod_6 rfl (lv_at hl 2 rfl) ?_
  refine lv_lxor hx hb dMa_floorMod_7 ?_
  refine lv_lconst (v := 0) hx hb dMa_floorMod_8 (by decide) ?_
  refine lc_ge hx hb dMa_floorMod_9 dMa_floorMod_10 rfl (fun h9 => ?_) (fun h9 => ?_)
  · have hR := hR.trans (if_pos h9)
    refine lv_lload hx hb dMa_floorMod_25 (lv_at hl 0 rfl) ?_
    exact W.lret hx hb hr (fun t ht _ => ⟨by rw [hR]; first | done | rfl, ht⟩) (fun _ h => absurd h List.not_mem_nil) dMa_floorMod_27
  · have hR := hR.trans (if_neg h9)
    refine lv_lload hx hb dMa_floorMod_13 (lv_at hl 0 rfl) ?_
    refine lv_lconst (v := 0) hx hb dMa_floorMod_15 (by decide) ?_
    refine lc_eq hx hb dMa_floorMod_16 dMa_floorMod_17 rfl (fun h16 => ?_) (fun h16 => ?_)
    · have hR := hR.trans (if_pos h16)
      refine lv_lload hx hb dMa_floorMod_25 (lv_at hl 0 rfl) ?_
      exact W.lret hx hb hr (fun t ht _ => ⟨by rw [hR]; first | done | rfl, ht⟩) (fun _ h => absurd h List.not_mem_nil) dMa_floorMod_27
    · have hR := hR.trans (if_neg h16)
      refine lv_lload hx hb dMa_floorMod_20 (lv_at hl 0 rfl) ?_
      refine lv_lload_n hx hb dMa_floorMod_22 rfl (lv_at hl 2 rfl) ?_
      refine lv_ladd hx hb dMa_floorMod_23 ?_
      exact W.lret hx hb hr (fun t ht _ => ⟨by rw [hR]; first | done | rfl, ht⟩) (fun _ h => absurd h List.not_mem_nil) dMa_floorMod_24
