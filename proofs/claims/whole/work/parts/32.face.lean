theorem bit_in {a d b : Int32} (h : fDr_hasBit a d b = true) : vp_in a 200 ∧ vp_in d 10 := by
  rw [fDr_hasBit.eq_1] at h
  by_cases h1 : fDr_hasAddress a = true
  · refine ⟨has_in h1, ?_⟩
    rw [if_pos h1] at h
    by_cases h2 : d < 0
    · rw [if_pos h2] at h; cases h
    · rw [if_neg h2] at h
      by_cases h3 : (10 : Int32) ≤ d
      · rw [if_pos h3] at h; cases h
      · rw [Int32.le_iff_toInt_le] at h3
        have e : (10 : Int32).toInt = 10 := by decide
        exact vp_in_iff.mpr ⟨i_nn h2, by omega⟩
  · rw [if_neg h1] at h; cases h
theorem sym_in {a : Int32} (h : fAs_hasSymbol a = true) : vp_in a 20 := by
  rw [fAs_hasSymbol.eq_1] at h
  by_cases h1 : a < 0
  · rw [if_pos h1] at h; cases h
  · rw [if_neg h1] at h
    by_cases h2 : (20 : Int32) ≤ a
    · rw [if_pos h2] at h; cases h
    · rw [Int32.le_iff_toInt_le] at h2
      have e : (20 : Int32).toInt = 20 := by decide
      exact vp_in_iff.mpr ⟨i_nn h1, by omega⟩
theorem out_in {z : SC} {a : Int32} (hc : (c_pcount z).toInt ≤ 40) (h : fPu_hasWord z a = true) : vp_in a 40 := by
  rw [fPu_hasWord.eq_1] at h
  by_cases h1 : a < 0
  · rw [if_pos h1] at h; cases h
  · rw [if_neg h1] at h
    by_cases h2 : c_pcount z ≤ a
    · rw [if_pos h2] at h; cases h
    · rw [Int32.le_iff_toInt_le] at h2
      exact vp_in_iff.mpr ⟨i_nn h1, by omega⟩
theorem dDM_word_0 : decode ccDM_word 0 = .ok (.iload_n 1, 1) := by decide +kernel
theorem dDM_word_1 : decode ccDM_word 1 = .ok (.invokestatic 46, 3) := by decide +kernel
theorem dDM_word_4 : decode ccDM_word 4 = .ok (.ifCond .ne 13, 3) := by decide +kernel
theorem dDM_word_7 : decode ccDM_word 7 = .ok (.new 50, 3) := by decide +kernel
theorem dDM_word_10 : decode ccDM_word 10 = .ok (.dup, 1) := by decide +kernel
theorem dDM_word_11 : decode ccDM_word 11 = .ok (.ldc 52, 2) := by decide +kernel
theorem dDM_word_13 : decode ccDM_word 13 = .ok (.invokespecial 54, 3) := by decide +kernel
theorem dDM_word_16 : decode ccDM_word 16 = .ok (.athrow, 1) := by decide +kernel
theorem dDM_word_17 : decode ccDM_word 17 = .ok (.lload_n 2, 1) := by decide +kernel
theorem dDM_word_18 : decode ccDM_word 18 = .ok (.invokestatic 57, 3) := by decide +kernel
theorem dDM_word_21 : decode ccDM_word 21 = .ok (.ifCond .ne 13, 3) := by decide +kernel
theorem dDM_word_24 : decode ccDM_word 24 = .ok (.new 63, 3) := by decide +kernel
theorem dDM_word_27 : decode ccDM_word 27 = .ok (.dup, 1) := by decide +kernel
theorem dDM_word_28 : decode ccDM_word 28 = .ok (.ldc 65, 2) := by decide +kernel
theorem dDM_word_30 : decode ccDM_word 30 = .ok (.invokespecial 67, 3) := by decide +kernel
theorem dDM_word_33 : decode ccDM_word 33 = .ok (.athrow, 1) := by decide +kernel
theorem dDM_word_34 : decode ccDM_word 34 = .ok (.aload_n 0, 1) := by decide +kernel
theorem dDM_word_35 : decode ccDM_word 35 = .ok (.getfield 10, 3) := by decide +kernel
theorem dDM_word_38 : decode ccDM_word 38 = .ok (.iload_n 1, 1) := by decide +kernel
theorem dDM_word_39 : decode ccDM_word 39 = .ok (.lload_n 2, 1) := by decide +kernel
theorem dDM_word_40 : decode ccDM_word 40 = .ok (.iload 4, 2) := by decide +kernel
theorem dDM_word_42 : decode ccDM_word 42 = .ok (.invokevirtual 68, 3) := by decide +kernel
theorem dDM_word_45 : decode ccDM_word 45 = .ok (.return_, 1) := by decide +kernel
def fDM_word (z0 : SC) (a : Int32) (v : Int64) (b : Bool) : SC :=
  (if (fDr_hasAddress a) = true then (if (fDg_fitWord v) = true then fDr_store z0 a v b else z0) else z0)
set_option maxHeartbeats 4000000 in
set_option maxRecDepth 100000 in
theorem kDM_word (l : Launch) (D : va_G) (q : Nat → Nat) (cI cJ cZ : ClassId) (hq : c_inj q) (z0 : SC) (a : Int32) (v : Int64) (b : Bool) (g1 : fDr_hasAddress a = true) (g2 : fDg_fitWord v = true) : Met l yDM_word wsDM_word { frames := 2, cells := 0, slots := 0, locals := 47 } (va_Pc [.ref (q 0), .int (a), .long (v), .int (bb (b))] (c_C D q cI cJ cZ z0)) (cQw none (c_W D q cI cJ cZ (fDM_word z0 a v b)) (c_qs q)) 0 0 (c_qs q) := by
  refine Met.ofW (cc := ccDM_word) (maxL := 5) (ret := none) (by decide +kernel) rfl ?_
  intro p e s m args below meth c s₁ B hml hv
  obtain ⟨rfl, hP, hK⟩ := hv
  have hx := B.exec
  have hb := B.bytes
  have hr := B.returns
  have hts := atoms_spec (ws := wsDM_word) B.pre
  have hown : s.vm.findClass RDM = some m.cls := findClass_of_methodNamed B.named
  have hlocks := B.notSynchronized
  have w0 := hts (.fieldLink RDM 10 "DrumMachine" "drum" "LDrumMachine$Drum;") (List.mem_cons_of_mem _ wm1_179)
  have i0 : ∀ w ∈ u_ws RDM TDM 5, w ∈ wsDM_word := fun w h => List.mem_cons_of_mem _ (inADM w h)
  have hS : va_S (c_qs q) s.heap s.heap [] := va_S.rf
  have hl := lv_entry ([.ref (q 0), .int (a), .long (v), .int (bb (b))]) (n := 5) (Nat.le_of_ble_eq_true rfl)
  rw [lg_entry_eq]
  generalize (lg_sl ([.ref (q 0), .int (a), .long (v), .int (bb (b))]) ++ List.replicate (5 - (lg_sl ([.ref (q 0), .int (a), .long (v), .int (bb (b))])).length) Slot.unset).toArray = ls at hl ⊢
  have hl : lv_has ls 5 [(0, .ref (q 0)), (1, .int (a)), (2, .long (v)), (4, .int (bb (b)))] := hl
  have hR := fDM_word.eq_1 z0 a v b
  refine lv_iload_n hx hb dDM_word_0 rfl (lv_at hl 1 rfl) ?_
  refine cl_rd (W.runS (As := [.int (a)]) (rest := []) ⟨hx, hb, hml, hown, hts⟩ (kDr_hasAddress l a) (va_cwS 1 hts (gS wm2_8 wm2_9 wm1_2 wm2_10) rfl rfl rfl (by decide +kernel) ⟨Nat.le_of_ble_eq_true rfl, Nat.le_of_ble_eq_true rfl⟩) (preT) rfl rfl hl.1 rfl (lv_room (Nat.le_of_ble_eq_true rfl)) dDM_word_1 ⟨Nat.le_refl _, Nat.le_refl _⟩) ?_
  refine wz_ifne hx hb dDM_word_4 rfl (fun h4 => ?_) (fun h4 => ?_)
  · have hR := hR.trans (if_pos h4)
    refine lv_lload_n hx hb dDM_word_17 rfl (lv_at hl 2 rfl) ?_
    refine cl_rd (W.runS (As := [.long (v)]) (rest := []) ⟨hx, hb, hml, hown, hts⟩ (kDg_fitWord l v) (va_cwS 1 hts (gS wm2_80 wm2_81 wm1_14 wm2_82) rfl rfl rfl (by decide +kernel) ⟨Nat.le_of_ble_eq_true rfl, Nat.le_of_ble_eq_true rfl⟩) (preT) rfl rfl hl.1 rfl (lv_room (Nat.le_of_ble_eq_true rfl)) dDM_word_18 ⟨Nat.le_refl _, Nat.le_refl _⟩) ?_
    refine wz_ifne hx hb dDM_word_21 rfl (fun h21 => ?_) (fun h21 => ?_)
    · have hR := hR.trans (if_pos h21)
      refine lv_aload_n hx hb dDM_word_34 rfl (lv_at hl 0 rfl) ?_
      refine cg0_drum hx hb hts i0 hown hK hP w0 dDM_word_35 ?_
      refine lv_iload_n hx hb dDM_word_38 rfl (lv_at hl 1 rfl) ?_
      refine lv_lload_n hx hb dDM_word_39 rfl (lv_at hl 2 rfl) ?_
      refine lv_iload hx hb dDM_word_40 (lv_at hl 3 rfl) ?_
      refine cl_wr (W.runV (As := [.int (a), .long (v), .int (bb (b))]) (rest := []) ⟨hx, hb, hml, hown, hts⟩ (kDr_store l D q cI cJ cZ hq z0 a v b (has_in g1)) (cwV 3 hts (gV wm2_100 wm2_101 wm2_102 wm1_2 wm2_103) rfl rfl rfl (by decide +kernel) ⟨Nat.le_of_ble_eq_true rfl, Nat.le_of_ble_eq_true rfl⟩) (c_preV1 hK hP) rfl rfl hl.1 rfl (lv_room (Nat.le_of_ble_eq_true rfl)) dDM_word_42 ⟨Nat.le_refl _, Nat.le_refl _⟩) hS (fun _ h => h) (fun _ h => h) (fun H locs hP hS => ?_)
      exact W.vret hx hb hr (fun t ht _ => ⟨rfl, by rw [hR, ht]; exact hP, hS.F ht⟩) hS.2.2 dDM_word_45
    · exact (h21 g2).elim
  · exact (h4 g1).elim
theorem dDM_flip_0 : decode ccDM_flip 0 = .ok (.iload_n 1, 1) := by decide +kernel
theorem dDM_flip_1 : decode ccDM_flip 1 = .ok (.iload_n 2, 1) := by decide +kernel
theorem dDM_flip_2 : decode ccDM_flip 2 = .ok (.iload_n 3, 1) := by decide +kernel
theorem dDM_flip_3 : decode ccDM_flip 3 = .ok (.invokestatic 72, 3) := by decide +kernel
theorem dDM_flip_6 : decode ccDM_flip 6 = .ok (.ifCond .ne 13, 3) := by decide +kernel
theorem dDM_flip_9 : decode ccDM_flip 9 = .ok (.new 50, 3) := by decide +kernel
theorem dDM_flip_12 : decode ccDM_flip 12 = .ok (.dup, 1) := by decide +kernel
theorem dDM_flip_13 : decode ccDM_flip 13 = .ok (.ldc 76, 2) := by decide +kernel
theorem dDM_flip_15 : decode ccDM_flip 15 = .ok (.invokespecial 54, 3) := by decide +kernel
theorem dDM_flip_18 : decode ccDM_flip 18 = .ok (.athrow, 1) := by decide +kernel
theorem dDM_flip_19 : decode ccDM_flip 19 = .ok (.aload_n 0, 1) := by decide +kernel
theorem dDM_flip_20 : decode ccDM_flip 20 = .ok (.getfield 10, 3) := by decide +kernel
theorem dDM_flip_23 : decode ccDM_flip 23 = .ok (.iload_n 1, 1) := by decide +kernel
theorem dDM_flip_24 : decode ccDM_flip 24 = .ok (.iload_n 2, 1) := by decide +kernel
theorem dDM_flip_25 : decode ccDM_flip 25 = .ok (.iload_n 3, 1) := by decide +kernel
theorem dDM_flip_26 : decode ccDM_flip 26 = .ok (.invokevirtual 78, 3) := by decide +kernel
theorem dDM_flip_29 : decode ccDM_flip 29 = .ok (.aload_n 0, 1) := by decide +kernel
theorem dDM_flip_30 : decode ccDM_flip 30 = .ok (.getfield 10, 3) := by decide +kernel
theorem dDM_flip_33 : decode ccDM_flip 33 = .ok (.iload_n 1, 1) := by decide +kernel
theorem dDM_flip_34 : decode ccDM_flip 34 = .ok (.invokevirtual 82, 3) := by decide +kernel
theorem dDM_flip_37 : decode ccDM_flip 37 = .ok (.ireturn, 1) := by decide +kernel
def fDM_flip (z0 : SC) (a : Int32) (d : Int32) (b : Int32) : Bool × SC :=
  (if (fDr_hasBit a d b) = true then (fDr_isValid (fDr_turnBitOver z0 a d b) a, fDr_turnBitOver z0 a d b) else (false, z0))
set_option maxHeartbeats 4000000 in
set_option maxRecDepth 100000 in
theorem kDM_flip (l : Launch) (D : va_G) (q : Nat → Nat) (cI cJ cZ : ClassId) (hq : c_inj q) (z0 : SC) (a : Int32) (d : Int32) (b : Int32) (g1 : fDr_hasBit a d b = true) : Met l yDM_flip wsDM_flip { frames := 4, cells := 0, slots := 0, locals := 89 } (va_Pc [.ref (q 0), .int (a), .int (d), .int (b)] (c_C D q cI cJ cZ z0)) (cQw (some (.int (bb ((fDM_flip z0 a d b).1)))) (c_W D q cI cJ cZ (fDM_flip z0 a d b).2) (c_qs q)) 0 0 (c_qs q) := by
  refine Met.ofW (cc := ccDM_flip) (maxL := 4) (ret := (some .boolean)) (by decide +kernel) rfl ?_
  intro p e s m args below meth c s₁ B hml hv
  obtain ⟨rfl, hP, hK⟩ := hv
  have hx := B.exec
  have hb := B.bytes
  have hr := B.returns
  have hts := atoms_spec (ws := wsDM_flip) B.pre
  have hown : s.vm.findClass RDM = some m.cls := findClass_of_methodNamed B.named
  have hlocks := B.notSynchronized
  have w0 := hts (.fieldLink RDM 10 "DrumMachine" "drum" "LDrumMachine$Drum;") (List.mem_cons_of_mem _ wm1_179)
  have i0 : ∀ w ∈ u_ws RDM TDM 5, w ∈ wsDM_flip := fun w h => List.mem_cons_of_mem _ (inADM w h)
  have hS : va_S (c_qs q) s.heap s.heap [] := va_S.rf
  have hl := lv_entry ([.ref (q 0), .int (a), .int (d), .int (b)]) (n := 4) (Nat.le_of_ble_eq_true rfl)
  rw [lg_entry_eq]
  generalize (lg_sl ([.ref (q 0), .int (a), .int (d), .int (b)]) ++ List.replicate (4 - (lg_sl ([.ref (q 0), .int (a), .int (d), .int (b)])).length) Slot.unset).toArray = ls at hl ⊢
  have hl : lv_has ls 4 [(0, .ref (q 0)), (1, .int (a)), (2, .int (d)), (3, .int (b))] := hl
  have hR := fDM_flip.eq_1 z0 a d b
  refine lv_iload_n hx hb dDM_flip_0 rfl (lv_at hl 1 rfl) ?_
  refine lv_iload_n hx hb dDM_flip_1 rfl (lv_at hl 2 rfl) ?_
  refine lv_iload_n hx hb dDM_flip_2 rfl (lv_at hl 3 rfl) ?_
  refine cl_rd (W.runS (As := [.int (a), .int (d), .int (b)]) (rest := []) ⟨hx, hb, hml, hown, hts⟩ (kDr_hasBit l a d b) (va_cwS 3 hts (gS wm2_112 wm2_113 wm1_2 wm2_114) rfl rfl rfl (by decide +kernel) ⟨Nat.le_of_ble_eq_true rfl, Nat.le_of_ble_eq_true rfl⟩) (preT) rfl rfl hl.1 rfl (lv_room (Nat.le_of_ble_eq_true rfl)) dDM_flip_3 ⟨Nat.le_refl _, Nat.le_refl _⟩) ?_
  refine wz_ifne hx hb dDM_flip_6 rfl (fun h6 => ?_) (fun h6 => ?_)
  · have hR := hR.trans (if_pos h6)
    refine lv_aload_n hx hb dDM_flip_19 rfl (lv_at hl 0 rfl) ?_
    refine cg0_drum hx hb hts i0 hown hK hP w0 dDM_flip_20 ?_
    refine lv_iload_n hx hb dDM_flip_23 rfl (lv_at hl 1 rfl) ?_
    refine lv_iload_n hx hb dDM_flip_24 rfl (lv_at hl 2 rfl) ?_
    refine lv_iload_n hx hb dDM_flip_25 rfl (lv_at hl 3 rfl) ?_
    refine cl_wr (W.runV (As := [.int (a), .int (d), .int (b)]) (rest := []) ⟨hx, hb, hml, hown, hts⟩ (kDr_turnBitOver l D q cI cJ cZ hq z0 a d b (bit_in g1).1 (bit_in g1).2) (cwV 3 hts (gV wm2_117 wm2_118 wm2_119 wm1_2 wm2_120) rfl rfl rfl (by decide +kernel) ⟨Nat.le_of_ble_eq_true rfl, Nat.le_of_ble_eq_true rfl⟩) (c_preV1 hK hP) rfl rfl hl.1 rfl (lv_room (Nat.le_of_ble_eq_true rfl)) dDM_flip_26 ⟨Nat.le_refl _, Nat.le_refl _⟩) hS (fun _ h => h) (fun _ h => h) (fun H locs hP hS => ?_)
    refine lv_aload_n hx hb dDM_flip_29 rfl (lv_at hl 0 rfl) ?_
    refine cg0_drum hx hb hts i0 hown hK hP w0 dDM_flip_30 ?_
    refine lv_iload_n hx hb dDM_flip_33 rfl (lv_at hl 1 rfl) ?_
    refine cl_rd (W.runV (As := [.int (a)]) (rest := []) ⟨hx, hb, hml, hown, hts⟩ (kDr_isValid l D q cI cJ cZ hq (fDr_turnBitOver z0 a d b) a (bit_in g1).1) (cwV 1 hts (gV wm2_129 wm2_130 wm2_131 wm1_2 wm2_132) rfl rfl rfl (by decide +kernel) ⟨Nat.le_of_ble_eq_true rfl, Nat.le_of_ble_eq_true rfl⟩) (c_preV1 hK hP) rfl rfl hl.1 rfl (lv_room (Nat.le_of_ble_eq_true rfl)) dDM_flip_34 ⟨Nat.le_refl _, Nat.le_refl _⟩) ?_
    exact W.zret hx hb hr (nz_b _) (fun t ht _ => ⟨by rw [hR]; first | done | rfl, by rw [hR, ht]; exact hP, hS.F ht⟩) hS.2.2 dDM_flip_37
  · exact (h6 g1).elim
theorem dDM_card_0 : decode ccDM_card 0 = .ok (.lload_n 1, 1) := by decide +kernel
theorem dDM_card_1 : decode ccDM_card 1 = .ok (.invokestatic 57, 3) := by decide +kernel
theorem dDM_card_4 : decode ccDM_card 4 = .ok (.ifCond .ne 13, 3) := by decide +kernel
theorem dDM_card_7 : decode ccDM_card 7 = .ok (.new 63, 3) := by decide +kernel
theorem dDM_card_10 : decode ccDM_card 10 = .ok (.dup, 1) := by decide +kernel
theorem dDM_card_11 : decode ccDM_card 11 = .ok (.ldc 85, 2) := by decide +kernel
theorem dDM_card_13 : decode ccDM_card 13 = .ok (.invokespecial 67, 3) := by decide +kernel
theorem dDM_card_16 : decode ccDM_card 16 = .ok (.athrow, 1) := by decide +kernel
theorem dDM_card_17 : decode ccDM_card 17 = .ok (.aload_n 0, 1) := by decide +kernel
theorem dDM_card_18 : decode ccDM_card 18 = .ok (.getfield 19, 3) := by decide +kernel
theorem dDM_card_21 : decode ccDM_card 21 = .ok (.invokevirtual 87, 3) := by decide +kernel
theorem dDM_card_24 : decode ccDM_card 24 = .ok (.ifCond .eq 13, 3) := by decide +kernel
theorem dDM_card_27 : decode ccDM_card 27 = .ok (.new 91, 3) := by decide +kernel
theorem dDM_card_30 : decode ccDM_card 30 = .ok (.dup, 1) := by decide +kernel
theorem dDM_card_31 : decode ccDM_card 31 = .ok (.ldc 93, 2) := by decide +kernel
theorem dDM_card_33 : decode ccDM_card 33 = .ok (.invokespecial 95, 3) := by decide +kernel
theorem dDM_card_36 : decode ccDM_card 36 = .ok (.athrow, 1) := by decide +kernel
theorem dDM_card_37 : decode ccDM_card 37 = .ok (.aload_n 0, 1) := by decide +kernel
theorem dDM_card_38 : decode ccDM_card 38 = .ok (.getfield 19, 3) := by decide +kernel
theorem dDM_card_41 : decode ccDM_card 41 = .ok (.lload_n 1, 1) := by decide +kernel
theorem dDM_card_42 : decode ccDM_card 42 = .ok (.iload_n 3, 1) := by decide +kernel
theorem dDM_card_43 : decode ccDM_card 43 = .ok (.invokevirtual 96, 3) := by decide +kernel
theorem dDM_card_46 : decode ccDM_card 46 = .ok (.aload_n 0, 1) := by decide +kernel
theorem dDM_card_47 : decode ccDM_card 47 = .ok (.getfield 19, 3) := by decide +kernel
theorem dDM_card_50 : decode ccDM_card 50 = .ok (.invokevirtual 100, 3) := by decide +kernel
theorem dDM_card_53 : decode ccDM_card 53 = .ok (.ireturn, 1) := by decide +kernel
def fDM_card (z0 : SC) (v : Int64) (b : Bool) : Int32 × SC :=
  (if (fDg_fitWord v) = true then (if (fCd_isFull z0) = true then (0, z0) else (fCd_size (fCd_put z0 v b), fCd_put z0 v b)) else (0, z0))
set_option maxHeartbeats 4000000 in
set_option maxRecDepth 100000 in
theorem kDM_card (l : Launch) (D : va_G) (q : Nat → Nat) (cI cJ cZ : ClassId) (hq : c_inj q) (z0 : SC) (v : Int64) (b : Bool) (g1 : fDg_fitWord v = true) (g2 : ¬ fCd_isFull z0 = true) (hi : vp_in ((c_cfirst z0 + c_ccount z0) % 20) 20) : Met l yDM_card wsDM_card { frames := 1, cells := 0, slots := 0, locals := 24 } (va_Pc [.ref (q 0), .long (v), .int (bb (b))] (c_C D q cI cJ cZ z0)) (cQw (some (.int ((fDM_card z0 v b).1))) (c_W D q cI cJ cZ (fDM_card z0 v b).2) (c_qs q)) 0 0 (c_qs q) := by
  refine Met.ofW (cc := ccDM_card) (maxL := 4) (ret := (some .int)) (by decide +kernel) rfl ?_
  intro p e s m args below meth c s₁ B hml hv
  obtain ⟨rfl, hP, hK⟩ := hv
  have hx := B.exec
  have hb := B.bytes
  have hr := B.returns
  have hts := atoms_spec (ws := wsDM_card) B.pre
  have hown : s.vm.findClass RDM = some m.cls := findClass_of_methodNamed B.named
  have hlocks := B.notSynchronized
  have w0 := hts (.fieldLink RDM 19 "DrumMachine" "cards" "LDrumMachine$CardDeck;") (List.mem_cons_of_mem _ wm1_180)
  have i0 : ∀ w ∈ u_ws RDM TDM 5, w ∈ wsDM_card := fun w h => List.mem_cons_of_mem _ (inADM w h)
  have hS : va_S (c_qs q) s.heap s.heap [] := va_S.rf
  have hl := lv_entry ([.ref (q 0), .long (v), .int (bb (b))]) (n := 4) (Nat.le_of_ble_eq_true rfl)
  rw [lg_entry_eq]
  generalize (lg_sl ([.ref (q 0), .long (v), .int (bb (b))]) ++ List.replicate (4 - (lg_sl ([.ref (q 0), .long (v), .int (bb (b))])).length) Slot.unset).toArray = ls at hl ⊢
  have hl : lv_has ls 4 [(0, .ref (q 0)), (1, .long (v)), (3, .int (bb (b)))] := hl
  have hR := fDM_card.eq_1 z0 v b
  refine lv_lload_n hx hb dDM_card_0 rfl (lv_at hl 1 rfl) ?_
  refine cl_rd (W.runS (As := [.long (v)]) (rest := []) ⟨hx, hb, hml, hown, hts⟩ (kDg_fitWord l v) (va_cwS 1 hts (gS wm2_80 wm2_81 wm1_14 wm2_82) rfl rfl rfl (by decide +kernel) ⟨Nat.le_of_ble_eq_true rfl, Nat.le_of_ble_eq_true rfl⟩) (preT) rfl rfl hl.1 rfl (lv_room (Nat.le_of_ble_eq_true rfl)) dDM_card_1 ⟨Nat.le_refl _, Nat.le_refl _⟩) ?_
  refine wz_ifne hx hb dDM_card_4 rfl (fun h4 => ?_) (fun h4 => ?_)
  · have hR := hR.trans (if_pos h4)
    refine lv_aload_n hx hb dDM_card_17 rfl (lv_at hl 0 rfl) ?_
    refine cg0_cards hx hb hts i0 hown hK hP w0 dDM_card_18 ?_
    refine cl_rd (W.runV (As := []) (rest := []) ⟨hx, hb, hml, hown, hts⟩ (kCd_isFull l D q cI cJ cZ hq z0) (cwV 0 hts (gV wm2_142 wm2_143 wm2_144 wm1_4 wm2_145) rfl rfl rfl (by decide +kernel) ⟨Nat.le_of_ble_eq_true rfl, Nat.le_of_ble_eq_true rfl⟩) (c_preV2 hK hP) rfl rfl hl.1 rfl (lv_room (Nat.le_of_ble_eq_true rfl)) dDM_card_21 ⟨Nat.le_refl _, Nat.le_refl _⟩) ?_
    refine wz_ifeq hx hb dDM_card_24 rfl (fun h24 => ?_) (fun h24 => ?_)
    · have hR := hR.trans (if_neg h24)
      refine lv_aload_n hx hb dDM_card_37 rfl (lv_at hl 0 rfl) ?_
      refine cg0_cards hx hb hts i0 hown hK hP w0 dDM_card_38 ?_
      refine lv_lload_n hx hb dDM_card_41 rfl (lv_at hl 1 rfl) ?_
      refine lv_iload_n hx hb dDM_card_42 rfl (lv_at hl 2 rfl) ?_
      refine cl_wr (W.runV (As := [.long (v), .int (bb (b))]) (rest := []) ⟨hx, hb, hml, hown, hts⟩ (kCd_put l D q cI cJ cZ hq z0 v b hi) (cwV 2 hts (gV wm2_162 wm2_163 wm2_164 wm1_4 wm2_165) rfl rfl rfl (by decide +kernel) ⟨Nat.le_of_ble_eq_true rfl, Nat.le_of_ble_eq_true rfl⟩) (c_preV2 hK hP) rfl rfl hl.1 rfl (lv_room (Nat.le_of_ble_eq_true rfl)) dDM_card_43 ⟨Nat.le_refl _, Nat.le_refl _⟩) hS (fun _ h => h) (fun _ h => h) (fun H locs hP hS => ?_)
      refine lv_aload_n hx hb dDM_card_46 rfl (lv_at hl 0 rfl) ?_
      refine cg0_cards hx hb hts i0 hown hK hP w0 dDM_card_47 ?_
      refine cl_rd (W.runV (As := []) (rest := []) ⟨hx, hb, hml, hown, hts⟩ (kCd_size l D q cI cJ cZ hq (fCd_put z0 v b)) (cwV 0 hts (gV wm2_166 wm2_167 wm2_168 wm1_4 wm2_169) rfl rfl rfl (by decide +kernel) ⟨Nat.le_of_ble_eq_true rfl, Nat.le_of_ble_eq_true rfl⟩) (c_preV2 hK hP) rfl rfl hl.1 rfl (lv_room (Nat.le_of_ble_eq_true rfl)) dDM_card_50 ⟨Nat.le_refl _, Nat.le_refl _⟩) ?_
      exact W.iret hx hb hr (fun t ht _ => ⟨by rw [hR]; first | done | rfl, by rw [hR, ht]; exact hP, hS.F ht⟩) hS.2.2 dDM_card_53
    · exact (g2 h24).elim
  · exact (h4 g1).elim
theorem dDM_line_0 : decode ccDM_line 0 = .ok (.iload_n 2, 1) := by decide +kernel
theorem dDM_line_1 : decode ccDM_line 1 = .ok (.invokestatic 104, 3) := by decide +kernel
theorem dDM_line_4 : decode ccDM_line 4 = .ok (.ifCond .ne 13, 3) := by decide +kernel
theorem dDM_line_7 : decode ccDM_line 7 = .ok (.new 63, 3) := by decide +kernel
theorem dDM_line_10 : decode ccDM_line 10 = .ok (.dup, 1) := by decide +kernel
theorem dDM_line_11 : decode ccDM_line 11 = .ok (.ldc 109, 2) := by decide +kernel
theorem dDM_line_13 : decode ccDM_line 13 = .ok (.invokespecial 67, 3) := by decide +kernel
theorem dDM_line_16 : decode ccDM_line 16 = .ok (.athrow, 1) := by decide +kernel
theorem dDM_line_17 : decode ccDM_line 17 = .ok (.iload_n 1, 1) := by decide +kernel
theorem dDM_line_18 : decode ccDM_line 18 = .ok (.invokestatic 111, 3) := by decide +kernel
theorem dDM_line_21 : decode ccDM_line 21 = .ok (.ifCond .eq 19, 3) := by decide +kernel
theorem dDM_line_24 : decode ccDM_line 24 = .ok (.iload_n 2, 1) := by decide +kernel
theorem dDM_line_25 : decode ccDM_line 25 = .ok (.iload_n 3, 1) := by decide +kernel
theorem dDM_line_26 : decode ccDM_line 26 = .ok (.invokestatic 114, 3) := by decide +kernel
theorem dDM_line_29 : decode ccDM_line 29 = .ok (.ifCond .eq 11, 3) := by decide +kernel
theorem dDM_line_32 : decode ccDM_line 32 = .ok (.iload 4, 2) := by decide +kernel
theorem dDM_line_34 : decode ccDM_line 34 = .ok (.invokestatic 111, 3) := by decide +kernel
theorem dDM_line_37 : decode ccDM_line 37 = .ok (.ifCond .ne 13, 3) := by decide +kernel
theorem dDM_line_40 : decode ccDM_line 40 = .ok (.new 63, 3) := by decide +kernel
theorem dDM_line_43 : decode ccDM_line 43 = .ok (.dup, 1) := by decide +kernel
theorem dDM_line_44 : decode ccDM_line 44 = .ok (.ldc 118, 2) := by decide +kernel
theorem dDM_line_46 : decode ccDM_line 46 = .ok (.invokespecial 67, 3) := by decide +kernel
theorem dDM_line_49 : decode ccDM_line 49 = .ok (.athrow, 1) := by decide +kernel
theorem dDM_line_50 : decode ccDM_line 50 = .ok (.aload_n 0, 1) := by decide +kernel
theorem dDM_line_51 : decode ccDM_line 51 = .ok (.getfield 42, 3) := by decide +kernel
theorem dDM_line_54 : decode ccDM_line 54 = .ok (.invokevirtual 120, 3) := by decide +kernel
theorem dDM_line_57 : decode ccDM_line 57 = .ok (.ifCond .eq 13, 3) := by decide +kernel
theorem dDM_line_60 : decode ccDM_line 60 = .ok (.new 91, 3) := by decide +kernel
theorem dDM_line_63 : decode ccDM_line 63 = .ok (.dup, 1) := by decide +kernel
theorem dDM_line_64 : decode ccDM_line 64 = .ok (.ldc 121, 2) := by decide +kernel
theorem dDM_line_66 : decode ccDM_line 66 = .ok (.invokespecial 95, 3) := by decide +kernel
theorem dDM_line_69 : decode ccDM_line 69 = .ok (.athrow, 1) := by decide +kernel
theorem dDM_line_70 : decode ccDM_line 70 = .ok (.aload_n 0, 1) := by decide +kernel
theorem dDM_line_71 : decode ccDM_line 71 = .ok (.getfield 42, 3) := by decide +kernel
theorem dDM_line_74 : decode ccDM_line 74 = .ok (.iload_n 1, 1) := by decide +kernel
theorem dDM_line_75 : decode ccDM_line 75 = .ok (.iload_n 2, 1) := by decide +kernel
theorem dDM_line_76 : decode ccDM_line 76 = .ok (.iload_n 3, 1) := by decide +kernel
theorem dDM_line_77 : decode ccDM_line 77 = .ok (.iload 4, 2) := by decide +kernel
theorem dDM_line_79 : decode ccDM_line 79 = .ok (.invokevirtual 123, 3) := by decide +kernel
theorem dDM_line_82 : decode ccDM_line 82 = .ok (.ireturn, 1) := by decide +kernel
def fDM_line (z0 : SC) (a : Int32) (o : Int32) (d : Int32) (x : Int32) : Int32 × SC :=
  (if (fOp_exists o) = true then (if (fAs_isPart a) = true then (if (fAs_isDataPart o d) = true then (if (fAs_isPart x) = true then (if (fAs_isFull z0) = true then (0, z0) else ((fAs_addLine z0 a o d x).1, (fAs_addLine z0 a o d x).2)) else (0, z0)) else (0, z0)) else (0, z0)) else (0, z0))
set_option maxHeartbeats 4000000 in
set_option maxRecDepth 100000 in
theorem kDM_line (l : Launch) (D : va_G) (q : Nat → Nat) (cI cJ cZ : ClassId) (hq : c_inj q) (z0 : SC) (a : Int32) (o : Int32) (d : Int32) (x : Int32) (g1 : fOp_exists o = true) (g2 : fAs_isPart a = true) (g3 : fAs_isDataPart o d = true) (g4 : fAs_isPart x = true) (g5 : ¬ fAs_isFull z0 = true) (hi : vp_in (c_acount z0) 40) : Met l yDM_line wsDM_line { frames := 4, cells := 0, slots := 0, locals := 81 } (va_Pc [.ref (q 0), .int (a), .int (o), .int (d), .int (x)] (c_C D q cI cJ cZ z0)) (cQw (some (.int ((fDM_line z0 a o d x).1))) (c_W D q cI cJ cZ (fDM_line z0 a o d x).2) (c_qs q)) 0 0 (c_qs q) := by
  refine Met.ofW (cc := ccDM_line) (maxL := 5) (ret := (some .int)) (by decide +kernel) rfl ?_
  intro p e s m args below meth c s₁ B hml hv
  obtain ⟨rfl, hP, hK⟩ := hv
  have hx := B.exec
  have hb := B.bytes
  have hr := B.returns
  have hts := atoms_spec (ws := wsDM_line) B.pre
  have hown : s.vm.findClass RDM = some m.cls := findClass_of_methodNamed B.named
  have hlocks := B.notSynchronized
  have w0 := hts (.fieldLink RDM 42 "DrumMachine" "assembler" "LDrumMachine$Assembler;") (List.mem_cons_of_mem _ wm1_183)
  have i0 : ∀ w ∈ u_ws RDM TDM 5, w ∈ wsDM_line := fun w h => List.mem_cons_of_mem _ (inADM w h)
  have hS : va_S (c_qs q) s.heap s.heap [] := va_S.rf
  have hl := lv_entry ([.ref (q 0), .int (a), .int (o), .int (d), .int (x)]) (n := 5) (Nat.le_of_ble_eq_true rfl)
  rw [lg_entry_eq]
  generalize (lg_sl ([.ref (q 0), .int (a), .int (o), .int (d), .int (x)]) ++ List.replicate (5 - (lg_sl ([.ref (q 0), .int (a), .int (o), .int (d), .int (x)])).length) Slot.unset).toArray = ls at hl ⊢
  have hl : lv_has ls 5 [(0, .ref (q 0)), (1, .int (a)), (2, .int (o)), (3, .int (d)), (4, .int (x))] := hl
  have hR := fDM_line.eq_1 z0 a o d x
  refine lv_iload_n hx hb dDM_line_0 rfl (lv_at hl 2 rfl) ?_
  refine cl_rd (W.runS (As := [.int (o)]) (rest := []) ⟨hx, hb, hml, hown, hts⟩ (kOp_exists l o) (va_cwS 1 hts (gS wm2_177 wm2_178 wm1_17 wm2_179) rfl rfl rfl (by decide +kernel) ⟨Nat.le_of_ble_eq_true rfl, Nat.le_of_ble_eq_true rfl⟩) (preT) rfl rfl hl.1 rfl (lv_room (Nat.le_of_ble_eq_true rfl)) dDM_line_1 ⟨Nat.le_refl _, Nat.le_refl _⟩) ?_
  refine wz_ifne hx hb dDM_line_4 rfl (fun h4 => ?_) (fun h4 => ?_)
  · have hR := hR.trans (if_pos h4)
    refine lv_iload_n hx hb dDM_line_17 rfl (lv_at hl 1 rfl) ?_
    refine cl_rd (W.runS (As := [.int (a)]) (rest := []) ⟨hx, hb, hml, hown, hts⟩ (kAs_isPart l a) (va_cwS 1 hts (gS wm2_187 wm2_188 wm1_8 wm2_189) rfl rfl rfl (by decide +kernel) ⟨Nat.le_of_ble_eq_true rfl, Nat.le_of_ble_eq_true rfl⟩) (preT) rfl rfl hl.1 rfl (lv_room (Nat.le_of_ble_eq_true rfl)) dDM_line_18 ⟨Nat.le_refl _, Nat.le_refl _⟩) ?_
    refine wz_ifeq hx hb dDM_line_21 rfl (fun h21 => ?_) (fun h21 => ?_)
    · exact (h21 g2).elim
    · have hR := hR.trans (if_pos h21)
      refine lv_iload_n hx hb dDM_line_24 rfl (lv_at hl 2 rfl) ?_
      refine lv_iload_n hx hb dDM_line_25 rfl (lv_at hl 3 rfl) ?_
      refine cl_rd (W.runS (As := [.int (o), .int (d)]) (rest := []) ⟨hx, hb, hml, hown, hts⟩ (kAs_isDataPart l o d) (va_cwS 2 hts (gS wm2_194 wm2_195 wm1_8 wm2_196) rfl rfl rfl (by decide +kernel) ⟨Nat.le_of_ble_eq_true rfl, Nat.le_of_ble_eq_true rfl⟩) (preT) rfl rfl hl.1 rfl (lv_room (Nat.le_of_ble_eq_true rfl)) dDM_line_26 ⟨Nat.le_refl _, Nat.le_refl _⟩) ?_
      refine wz_ifeq hx hb dDM_line_29 rfl (fun h29 => ?_) (fun h29 => ?_)
      · exact (h29 g3).elim
      · have hR := hR.trans (if_pos h29)
        refine lv_iload hx hb dDM_line_32 (lv_at hl 4 rfl) ?_
        refine cl_rd (W.runS (As := [.int (x)]) (rest := []) ⟨hx, hb, hml, hown, hts⟩ (kAs_isPart l x) (va_cwS 1 hts (gS wm2_187 wm2_188 wm1_8 wm2_189) rfl rfl rfl (by decide +kernel) ⟨Nat.le_of_ble_eq_true rfl, Nat.le_of_ble_eq_true rfl⟩) (preT) rfl rfl hl.1 rfl (lv_room (Nat.le_of_ble_eq_true rfl)) dDM_line_34 ⟨Nat.le_refl _, Nat.le_refl _⟩) ?_
        refine wz_ifne hx hb dDM_line_37 rfl (fun h37 => ?_) (fun h37 => ?_)
        · have hR := hR.trans (if_pos h37)
          refine lv_aload_n hx hb dDM_line_50 rfl (lv_at hl 0 rfl) ?_
          refine cg0_assembler hx hb hts i0 hown hK hP w0 dDM_line_51 ?_
          refine cl_rd (W.runV (As := []) (rest := []) ⟨hx, hb, hml, hown, hts⟩ (kAs_isFull l D q cI cJ cZ hq z0) (cwV 0 hts (gV wm2_202 wm2_203 wm2_204 wm1_8 wm2_205) rfl rfl rfl (by decide +kernel) ⟨Nat.le_of_ble_eq_true rfl, Nat.le_of_ble_eq_true rfl⟩) (c_preV6 hK hP) rfl rfl hl.1 rfl (lv_room (Nat.le_of_ble_eq_true rfl)) dDM_line_54 ⟨Nat.le_refl _, Nat.le_refl _⟩) ?_
          refine wz_ifeq hx hb dDM_line_57 rfl (fun h57 => ?_) (fun h57 => ?_)
          · have hR := hR.trans (if_neg h57)
            refine lv_aload_n hx hb dDM_line_70 rfl (lv_at hl 0 rfl) ?_
            refine cg0_assembler hx hb hts i0 hown hK hP w0 dDM_line_71 ?_
            refine lv_iload_n hx hb dDM_line_74 rfl (lv_at hl 1 rfl) ?_
            refine lv_iload_n hx hb dDM_line_75 rfl (lv_at hl 2 rfl) ?_
            refine lv_iload_n hx hb dDM_line_76 rfl (lv_at hl 3 rfl) ?_
            refine lv_iload hx hb dDM_line_77 (lv_at hl 4 rfl) ?_
            refine cl_wr (W.runV (As := [.int (a), .int (o), .int (d), .int (x)]) (rest := []) ⟨hx, hb, hml, hown, hts⟩ (kAs_addLine l D q cI cJ cZ hq z0 a o d x hi) (cwV 4 hts (gV wm2_207 wm2_208 wm2_209 wm1_8 wm2_210) rfl rfl rfl (by decide +kernel) ⟨Nat.le_of_ble_eq_true rfl, Nat.le_of_ble_eq_true rfl⟩) (c_preV6 hK hP) rfl rfl hl.1 rfl (lv_room (Nat.le_of_ble_eq_true rfl)) dDM_line_79 ⟨Nat.le_refl _, Nat.le_refl _⟩) hS (fun _ h => h) (fun _ h => h) (fun H locs hP hS => ?_)
            exact W.iret hx hb hr (fun t ht _ => ⟨by rw [hR]; first | done | rfl, by rw [hR, ht]; exact hP, hS.F ht⟩) hS.2.2 dDM_line_82
          · exact (g5 h57).elim
        · exact (h37 g4).elim
  · exact (h4 g1).elim
theorem dDM_reserve_0 : decode ccDM_reserve 0 = .ok (.iload_n 1, 1) := by decide +kernel
theorem dDM_reserve_1 : decode ccDM_reserve 1 = .ok (.invokestatic 46, 3) := by decide +kernel
theorem dDM_reserve_4 : decode ccDM_reserve 4 = .ok (.ifCond .ne 13, 3) := by decide +kernel
theorem dDM_reserve_7 : decode ccDM_reserve 7 = .ok (.new 50, 3) := by decide +kernel
theorem dDM_reserve_10 : decode ccDM_reserve 10 = .ok (.dup, 1) := by decide +kernel
theorem dDM_reserve_11 : decode ccDM_reserve 11 = .ok (.ldc 52, 2) := by decide +kernel
theorem dDM_reserve_13 : decode ccDM_reserve 13 = .ok (.invokespecial 54, 3) := by decide +kernel
theorem dDM_reserve_16 : decode ccDM_reserve 16 = .ok (.athrow, 1) := by decide +kernel
theorem dDM_reserve_17 : decode ccDM_reserve 17 = .ok (.aload_n 0, 1) := by decide +kernel
theorem dDM_reserve_18 : decode ccDM_reserve 18 = .ok (.getfield 42, 3) := by decide +kernel
theorem dDM_reserve_21 : decode ccDM_reserve 21 = .ok (.iload_n 1, 1) := by decide +kernel
theorem dDM_reserve_22 : decode ccDM_reserve 22 = .ok (.invokevirtual 127, 3) := by decide +kernel
theorem dDM_reserve_25 : decode ccDM_reserve 25 = .ok (.return_, 1) := by decide +kernel
def fDM_reserve (z0 : SC) (a : Int32) : SC :=
  (if (fDr_hasAddress a) = true then fAs_markReserved z0 a else z0)
set_option maxHeartbeats 4000000 in
set_option maxRecDepth 100000 in
theorem kDM_reserve (l : Launch) (D : va_G) (q : Nat → Nat) (cI cJ cZ : ClassId) (hq : c_inj q) (z0 : SC) (a : Int32) (g1 : fDr_hasAddress a = true) : Met l yDM_reserve wsDM_reserve { frames := 1, cells := 0, slots := 0, locals := 21 } (va_Pc [.ref (q 0), .int (a)] (c_C D q cI cJ cZ z0)) (cQw none (c_W D q cI cJ cZ (fDM_reserve z0 a)) (c_qs q)) 0 0 (c_qs q) := by
  refine Met.ofW (cc := ccDM_reserve) (maxL := 2) (ret := none) (by decide +kernel) rfl ?_
  intro p e s m args below meth c s₁ B hml hv
  obtain ⟨rfl, hP, hK⟩ := hv
  have hx := B.exec
  have hb := B.bytes
  have hr := B.returns
  have hts := atoms_spec (ws := wsDM_reserve) B.pre
  have hown : s.vm.findClass RDM = some m.cls := findClass_of_methodNamed B.named
  have hlocks := B.notSynchronized
  have w0 := hts (.fieldLink RDM 42 "DrumMachine" "assembler" "LDrumMachine$Assembler;") (List.mem_cons_of_mem _ wm1_183)
  have i0 : ∀ w ∈ u_ws RDM TDM 5, w ∈ wsDM_reserve := fun w h => List.mem_cons_of_mem _ (inADM w h)
  have hS : va_S (c_qs q) s.heap s.heap [] := va_S.rf
  have hl := lv_entry ([.ref (q 0), .int (a)]) (n := 2) (Nat.le_of_ble_eq_true rfl)
  rw [lg_entry_eq]
  generalize (lg_sl ([.ref (q 0), .int (a)]) ++ List.replicate (2 - (lg_sl ([.ref (q 0), .int (a)])).length) Slot.unset).toArray = ls at hl ⊢
  have hl : lv_has ls 2 [(0, .ref (q 0)), (1, .int (a))] := hl
  have hR := fDM_reserve.eq_1 z0 a
  refine lv_iload_n hx hb dDM_reserve_0 rfl (lv_at hl 1 rfl) ?_
  refine cl_rd (W.runS (As := [.int (a)]) (rest := []) ⟨hx, hb, hml, hown, hts⟩ (kDr_hasAddress l a) (va_cwS 1 hts (gS wm2_8 wm2_9 wm1_2 wm2_10) rfl rfl rfl (by decide +kernel) ⟨Nat.le_of_ble_eq_true rfl, Nat.le_of_ble_eq_true rfl⟩) (preT) rfl rfl hl.1 rfl (lv_room (Nat.le_of_ble_eq_true rfl)) dDM_reserve_1 ⟨Nat.le_refl _, Nat.le_refl _⟩) ?_
  refine wz_ifne hx hb dDM_reserve_4 rfl (fun h4 => ?_) (fun h4 => ?_)
  · have hR := hR.trans (if_pos h4)
    refine lv_aload_n hx hb dDM_reserve_17 rfl (lv_at hl 0 rfl) ?_
    refine cg0_assembler hx hb hts i0 hown hK hP w0 dDM_reserve_18 ?_
    refine lv_iload_n hx hb dDM_reserve_21 rfl (lv_at hl 1 rfl) ?_
    refine cl_wr (W.runV (As := [.int (a)]) (rest := []) ⟨hx, hb, hml, hown, hts⟩ (kAs_markReserved l D q cI cJ cZ hq z0 a (has_in g1)) (cwV 1 hts (gV wm2_218 wm2_219 wm2_220 wm1_8 wm2_221) rfl rfl rfl (by decide +kernel) ⟨Nat.le_of_ble_eq_true rfl, Nat.le_of_ble_eq_true rfl⟩) (c_preV6 hK hP) rfl rfl hl.1 rfl (lv_room (Nat.le_of_ble_eq_true rfl)) dDM_reserve_22 ⟨Nat.le_refl _, Nat.le_refl _⟩) hS (fun _ h => h) (fun _ h => h) (fun H locs hP hS => ?_)
    exact W.vret hx hb hr (fun t ht _ => ⟨rfl, by rw [hR, ht]; exact hP, hS.F ht⟩) hS.2.2 dDM_reserve_25
  · exact (h4 g1).elim
theorem dDM_clear_0 : decode ccDM_clear 0 = .ok (.aload_n 0, 1) := by decide +kernel
theorem dDM_clear_1 : decode ccDM_clear 1 = .ok (.getfield 42, 3) := by decide +kernel
theorem dDM_clear_4 : decode ccDM_clear 4 = .ok (.invokevirtual 131, 3) := by decide +kernel
theorem dDM_clear_7 : decode ccDM_clear 7 = .ok (.return_, 1) := by decide +kernel
def fDM_clear (z0 : SC)  : SC :=
  fAs_forgetAll z0
set_option maxHeartbeats 4000000 in
set_option maxRecDepth 100000 in
theorem kDM_clear (l : Launch) (D : va_G) (q : Nat → Nat) (cI cJ cZ : ClassId) (hq : c_inj q) (z0 : SC)   : Met l yDM_clear wsDM_clear { frames := 3, cells := 0, slots := 0, locals := 64 } (va_Pc [.ref (q 0)] (c_C D q cI cJ cZ z0)) (cQw none (c_W D q cI cJ cZ (fDM_clear z0)) (c_qs q)) 0 0 (c_qs q) := by
  refine Met.ofW (cc := ccDM_clear) (maxL := 1) (ret := none) (by decide +kernel) rfl ?_
  intro p e s m args below meth c s₁ B hml hv
  obtain ⟨rfl, hP, hK⟩ := hv
  have hx := B.exec
  have hb := B.bytes
  have hr := B.returns
  have hts := atoms_spec (ws := wsDM_clear) B.pre
  have hown : s.vm.findClass RDM = some m.cls := findClass_of_methodNamed B.named
  have hlocks := B.notSynchronized
  have w0 := hts (.fieldLink RDM 42 "DrumMachine" "assembler" "LDrumMachine$Assembler;") (List.mem_cons_of_mem _ wm1_183)
  have i0 : ∀ w ∈ u_ws RDM TDM 5, w ∈ wsDM_clear := fun w h => List.mem_cons_of_mem _ (inADM w h)
  have hS : va_S (c_qs q) s.heap s.heap [] := va_S.rf
  have hl := lv_entry ([.ref (q 0)]) (n := 1) (Nat.le_of_ble_eq_true rfl)
  rw [lg_entry_eq]
  generalize (lg_sl ([.ref (q 0)]) ++ List.replicate (1 - (lg_sl ([.ref (q 0)])).length) Slot.unset).toArray = ls at hl ⊢
  have hl : lv_has ls 1 [(0, .ref (q 0))] := hl
  have hR := fDM_clear.eq_1 z0
  refine lv_aload_n hx hb dDM_clear_0 rfl (lv_at hl 0 rfl) ?_
  refine cg0_assembler hx hb hts i0 hown hK hP w0 dDM_clear_1 ?_
  refine cl_wr (W.runV (As := []) (rest := []) ⟨hx, hb, hml, hown, hts⟩ (kAs_forgetAll l D q cI cJ cZ hq z0) (cwV 0 hts (gV wm1_199 wm1_200 wm1_201 wm1_8 wm1_202) rfl rfl rfl (by decide +kernel) ⟨Nat.le_of_ble_eq_true rfl, Nat.le_of_ble_eq_true rfl⟩) (c_preV6 hK hP) rfl rfl hl.1 rfl (lv_room (Nat.le_of_ble_eq_true rfl)) dDM_clear_4 ⟨Nat.le_refl _, Nat.le_refl _⟩) hS (fun _ h => h) (fun _ h => h) (fun H locs hP hS => ?_)
  exact W.vret hx hb hr (fun t ht _ => ⟨rfl, by rw [hR, ht]; exact hP, hS.F ht⟩) hS.2.2 dDM_clear_7
theorem dDM_assemble_0 : decode ccDM_assemble 0 = .ok (.aload_n 0, 1) := by decide +kernel
theorem dDM_assemble_1 : decode ccDM_assemble 1 = .ok (.getfield 42, 3) := by decide +kernel
theorem dDM_assemble_4 : decode ccDM_assemble 4 = .ok (.invokevirtual 134, 3) := by decide +kernel
theorem dDM_assemble_7 : decode ccDM_assemble 7 = .ok (.ifCond .eq 13, 3) := by decide +kernel
theorem dDM_assemble_10 : decode ccDM_assemble 10 = .ok (.new 91, 3) := by decide +kernel
theorem dDM_assemble_13 : decode ccDM_assemble 13 = .ok (.dup, 1) := by decide +kernel
theorem dDM_assemble_14 : decode ccDM_assemble 14 = .ok (.ldc 137, 2) := by decide +kernel
theorem dDM_assemble_16 : decode ccDM_assemble 16 = .ok (.invokespecial 95, 3) := by decide +kernel
theorem dDM_assemble_19 : decode ccDM_assemble 19 = .ok (.athrow, 1) := by decide +kernel
theorem dDM_assemble_20 : decode ccDM_assemble 20 = .ok (.aload_n 0, 1) := by decide +kernel
theorem dDM_assemble_21 : decode ccDM_assemble 21 = .ok (.getfield 42, 3) := by decide +kernel
theorem dDM_assemble_24 : decode ccDM_assemble 24 = .ok (.iload_n 1, 1) := by decide +kernel
theorem dDM_assemble_25 : decode ccDM_assemble 25 = .ok (.invokevirtual 139, 3) := by decide +kernel
theorem dDM_assemble_28 : decode ccDM_assemble 28 = .ok (.ifCond .ne 13, 3) := by decide +kernel
theorem dDM_assemble_31 : decode ccDM_assemble 31 = .ok (.new 143, 3) := by decide +kernel
theorem dDM_assemble_34 : decode ccDM_assemble 34 = .ok (.dup, 1) := by decide +kernel
theorem dDM_assemble_35 : decode ccDM_assemble 35 = .ok (.ldc 145, 2) := by decide +kernel
theorem dDM_assemble_37 : decode ccDM_assemble 37 = .ok (.invokespecial 147, 3) := by decide +kernel
theorem dDM_assemble_40 : decode ccDM_assemble 40 = .ok (.athrow, 1) := by decide +kernel
theorem dDM_assemble_41 : decode ccDM_assemble 41 = .ok (.aload_n 0, 1) := by decide +kernel
theorem dDM_assemble_42 : decode ccDM_assemble 42 = .ok (.getfield 42, 3) := by decide +kernel
theorem dDM_assemble_45 : decode ccDM_assemble 45 = .ok (.aload_n 0, 1) := by decide +kernel
theorem dDM_assemble_46 : decode ccDM_assemble 46 = .ok (.getfield 10, 3) := by decide +kernel
theorem dDM_assemble_49 : decode ccDM_assemble 49 = .ok (.invokevirtual 148, 3) := by decide +kernel
theorem dDM_assemble_52 : decode ccDM_assemble 52 = .ok (.aload_n 0, 1) := by decide +kernel
theorem dDM_assemble_53 : decode ccDM_assemble 53 = .ok (.getfield 42, 3) := by decide +kernel
theorem dDM_assemble_56 : decode ccDM_assemble 56 = .ok (.invokevirtual 152, 3) := by decide +kernel
theorem dDM_assemble_59 : decode ccDM_assemble 59 = .ok (.ireturn, 1) := by decide +kernel
def fDM_assemble (z0 : SC) (b : Bool) : Int32 × SC :=
  (if (fAs_isEmpty z0) = true then (0, z0) else (if ((fAs_placeAll z0 b).1) = true then (fAs_firstLocation (fAs_writeTo ((fAs_placeAll z0 b).2)), fAs_writeTo ((fAs_placeAll z0 b).2)) else (0, (fAs_placeAll z0 b).2)))
set_option maxHeartbeats 4000000 in
set_option maxRecDepth 100000 in
theorem kDM_assemble (l : Launch) (D : va_G) (q : Nat → Nat) (cI cJ cZ : ClassId) (hq : c_inj q) (z0 : SC) (b : Bool) (g1 : ¬ fAs_isEmpty z0 = true) (hA : c_A z0) (g2 : (fAs_placeAll z0 b).1 = true) (hA2 : c_A (fAs_placeAll z0 b).2) (hw : ∀ i, i < 40 → (nI i) < c_acount (fAs_placeAll z0 b).2 → 0 ≤ (c_locs (fAs_placeAll z0 b).2 i).toInt) : Met l yDM_assemble wsDM_assemble { frames := 7, cells := 0, slots := 0, locals := 155 } (va_Pc [.ref (q 0), .int (bb (b))] (c_C D q cI cJ cZ z0)) (cQw (some (.int ((fDM_assemble z0 b).1))) (c_W D q cI cJ cZ (fDM_assemble z0 b).2) (c_qs q)) 0 0 (c_qs q) := by
  refine Met.ofW (cc := ccDM_assemble) (maxL := 2) (ret := (some .int)) (by decide +kernel) rfl ?_
  intro p e s m args below meth c s₁ B hml hv
  obtain ⟨rfl, hP, hK⟩ := hv
  have hx := B.exec
  have hb := B.bytes
  have hr := B.returns
  have hts := atoms_spec (ws := wsDM_assemble) B.pre
  have hown : s.vm.findClass RDM = some m.cls := findClass_of_methodNamed B.named
  have hlocks := B.notSynchronized
  have w0 := hts (.fieldLink RDM 42 "DrumMachine" "assembler" "LDrumMachine$Assembler;") (List.mem_cons_of_mem _ wm1_183)
  have w1 := hts (.fieldLink RDM 10 "DrumMachine" "drum" "LDrumMachine$Drum;") (List.mem_cons_of_mem _ wm1_179)
  have i0 : ∀ w ∈ u_ws RDM TDM 5, w ∈ wsDM_assemble := fun w h => List.mem_cons_of_mem _ (inADM w h)
  have hS : va_S (c_qs q) s.heap s.heap [] := va_S.rf
  have hl := lv_entry ([.ref (q 0), .int (bb (b))]) (n := 2) (Nat.le_of_ble_eq_true rfl)
  rw [lg_entry_eq]
  generalize (lg_sl ([.ref (q 0), .int (bb (b))]) ++ List.replicate (2 - (lg_sl ([.ref (q 0), .int (bb (b))])).length) Slot.unset).toArray = ls at hl ⊢
  have hl : lv_has ls 2 [(0, .ref (q 0)), (1, .int (bb (b)))] := hl
  have hR := fDM_assemble.eq_1 z0 b
  refine lv_aload_n hx hb dDM_assemble_0 rfl (lv_at hl 0 rfl) ?_
  refine cg0_assembler hx hb hts i0 hown hK hP w0 dDM_assemble_1 ?_
  refine cl_rd (W.runV (As := []) (rest := []) ⟨hx, hb, hml, hown, hts⟩ (kAs_isEmpty l D q cI cJ cZ hq z0) (cwV 0 hts (gV wm2_230 wm2_231 wm2_232 wm1_8 wm2_233) rfl rfl rfl (by decide +kernel) ⟨Nat.le_of_ble_eq_true rfl, Nat.le_of_ble_eq_true rfl⟩) (c_preV6 hK hP) rfl rfl hl.1 rfl (lv_room (Nat.le_of_ble_eq_true rfl)) dDM_assemble_4 ⟨Nat.le_refl _, Nat.le_refl _⟩) ?_
  refine wz_ifeq hx hb dDM_assemble_7 rfl (fun h7 => ?_) (fun h7 => ?_)
  · have hR := hR.trans (if_neg h7)
    refine lv_aload_n hx hb dDM_assemble_20 rfl (lv_at hl 0 rfl) ?_
    refine cg0_assembler hx hb hts i0 hown hK hP w0 dDM_assemble_21 ?_
    refine lv_iload_n hx hb dDM_assemble_24 rfl (lv_at hl 1 rfl) ?_
    refine cl_wr (W.runV (As := [.int (bb (b))]) (rest := []) ⟨hx, hb, hml, hown, hts⟩ (kAs_placeAll l D q cI cJ cZ hq z0 b hA) (cwV 1 hts (gV wm2_235 wm2_236 wm2_237 wm1_8 wm2_238) rfl rfl rfl (by decide +kernel) ⟨Nat.le_of_ble_eq_true rfl, Nat.le_of_ble_eq_true rfl⟩) (c_preV6 hK hP) rfl rfl hl.1 rfl (lv_room (Nat.le_of_ble_eq_true rfl)) dDM_assemble_25 ⟨Nat.le_refl _, Nat.le_refl _⟩) hS (fun _ h => h) (fun _ h => h) (fun H locs hP hS => ?_)
    refine wz_ifne hx hb dDM_assemble_28 rfl (fun h28 => ?_) (fun h28 => ?_)
    · have hR := hR.trans (if_pos h28)
      refine lv_aload_n hx hb dDM_assemble_41 rfl (lv_at hl 0 rfl) ?_
      refine cg0_assembler hx hb hts i0 hown hK hP w0 dDM_assemble_42 ?_
      refine lv_aload_n hx hb dDM_assemble_45 rfl (lv_at hl 0 rfl) ?_
      refine cg0_drum hx hb hts i0 hown hK hP w1 dDM_assemble_46 ?_
      refine cl_wr (W.runV (As := [.ref (q 1)]) (rest := []) ⟨hx, hb, hml, hown, hts⟩ (kAs_writeTo l D q cI cJ cZ hq ((fAs_placeAll z0 b).2) hA2 hw) (cwV 1 hts (gV wm3_72 wm3_73 wm3_74 wm1_8 wm3_75) rfl rfl rfl (by decide +kernel) ⟨Nat.le_of_ble_eq_true rfl, Nat.le_of_ble_eq_true rfl⟩) (c_preV6 hK hP) rfl rfl hl.1 rfl (lv_room (Nat.le_of_ble_eq_true rfl)) dDM_assemble_49 ⟨Nat.le_refl _, Nat.le_refl _⟩) hS (fun _ h => h) (fun _ h => h) (fun H locs hP hS => ?_)
      refine lv_aload_n hx hb dDM_assemble_52 rfl (lv_at hl 0 rfl) ?_
      refine cg0_assembler hx hb hts i0 hown hK hP w0 dDM_assemble_53 ?_
      refine cl_rd (W.runV (As := []) (rest := []) ⟨hx, hb, hml, hown, hts⟩ (kAs_firstLocation l D q cI cJ cZ hq (fAs_writeTo ((fAs_placeAll z0 b).2))) (cwV 0 hts (gV wm3_82 wm3_83 wm3_84 wm1_8 wm3_85) rfl rfl rfl (by decide +kernel) ⟨Nat.le_of_ble_eq_true rfl, Nat.le_of_ble_eq_true rfl⟩) (c_preV6 hK hP) rfl rfl hl.1 rfl (lv_room (Nat.le_of_ble_eq_true rfl)) dDM_assemble_56 ⟨Nat.le_refl _, Nat.le_refl _⟩) ?_
      exact W.iret hx hb hr (fun t ht _ => ⟨by rw [hR]; first | done | rfl, by rw [hR, ht]; dsimp only; exact hP, hS.F ht⟩) hS.2.2 dDM_assemble_59
    · exact (h28 g2).elim
  · exact (g1 h7).elim
theorem dDM_place_0 : decode ccDM_place 0 = .ok (.iload_n 1, 1) := by decide +kernel
theorem dDM_place_1 : decode ccDM_place 1 = .ok (.invokestatic 155, 3) := by decide +kernel
theorem dDM_place_4 : decode ccDM_place 4 = .ok (.ifCond .ne 13, 3) := by decide +kernel
theorem dDM_place_7 : decode ccDM_place 7 = .ok (.new 50, 3) := by decide +kernel
theorem dDM_place_10 : decode ccDM_place 10 = .ok (.dup, 1) := by decide +kernel
theorem dDM_place_11 : decode ccDM_place 11 = .ok (.ldc 158, 2) := by decide +kernel
theorem dDM_place_13 : decode ccDM_place 13 = .ok (.invokespecial 54, 3) := by decide +kernel
theorem dDM_place_16 : decode ccDM_place 16 = .ok (.athrow, 1) := by decide +kernel
theorem dDM_place_17 : decode ccDM_place 17 = .ok (.aload_n 0, 1) := by decide +kernel
theorem dDM_place_18 : decode ccDM_place 18 = .ok (.getfield 42, 3) := by decide +kernel
theorem dDM_place_21 : decode ccDM_place 21 = .ok (.iload_n 1, 1) := by decide +kernel
theorem dDM_place_22 : decode ccDM_place 22 = .ok (.invokevirtual 160, 3) := by decide +kernel
theorem dDM_place_25 : decode ccDM_place 25 = .ok (.ireturn, 1) := by decide +kernel
def fDM_place (z0 : SC) (a : Int32) : Int32 :=
  (if (fAs_hasSymbol a) = true then fAs_placeOf z0 a else 0)
set_option maxHeartbeats 4000000 in
set_option maxRecDepth 100000 in
theorem kDM_place (l : Launch) (D : va_G) (q : Nat → Nat) (cI cJ cZ : ClassId) (hq : c_inj q) (z0 : SC) (a : Int32) (g1 : fAs_hasSymbol a = true) : Met l yDM_place wsDM_place { frames := 1, cells := 0, slots := 0, locals := 21 } (va_Pc [.ref (q 0), .int (a)] (c_C D q cI cJ cZ z0)) (cQr (some (.int (fDM_place z0 a)))) 0 0 (fun _ => False) := by
  refine Met.ofW (cc := ccDM_place) (maxL := 2) (ret := (some .int)) (by decide +kernel) rfl ?_
  intro p e s m args below meth c s₁ B hml hv
  obtain ⟨rfl, hP, hK⟩ := hv
  have hx := B.exec
  have hb := B.bytes
  have hr := B.returns
  have hts := atoms_spec (ws := wsDM_place) B.pre
  have hown : s.vm.findClass RDM = some m.cls := findClass_of_methodNamed B.named
  have hlocks := B.notSynchronized
  have w0 := hts (.fieldLink RDM 42 "DrumMachine" "assembler" "LDrumMachine$Assembler;") (List.mem_cons_of_mem _ wm1_183)
  have i0 : ∀ w ∈ u_ws RDM TDM 5, w ∈ wsDM_place := fun w h => List.mem_cons_of_mem _ (inADM w h)
  have hl := lv_entry ([.ref (q 0), .int (a)]) (n := 2) (Nat.le_of_ble_eq_true rfl)
  rw [lg_entry_eq]
  generalize (lg_sl ([.ref (q 0), .int (a)]) ++ List.replicate (2 - (lg_sl ([.ref (q 0), .int (a)])).length) Slot.unset).toArray = ls at hl ⊢
  have hl : lv_has ls 2 [(0, .ref (q 0)), (1, .int (a))] := hl
  have hR := fDM_place.eq_1 z0 a
  refine lv_iload_n hx hb dDM_place_0 rfl (lv_at hl 1 rfl) ?_
  refine cl_rd (W.runS (As := [.int (a)]) (rest := []) ⟨hx, hb, hml, hown, hts⟩ (kAs_hasSymbol l a) (va_cwS 1 hts (gS wm3_93 wm3_94 wm1_8 wm3_95) rfl rfl rfl (by decide +kernel) ⟨Nat.le_of_ble_eq_true rfl, Nat.le_of_ble_eq_true rfl⟩) (preT) rfl rfl hl.1 rfl (lv_room (Nat.le_of_ble_eq_true rfl)) dDM_place_1 ⟨Nat.le_refl _, Nat.le_refl _⟩) ?_
  refine wz_ifne hx hb dDM_place_4 rfl (fun h4 => ?_) (fun h4 => ?_)
  · have hR := hR.trans (if_pos h4)
    refine lv_aload_n hx hb dDM_place_17 rfl (lv_at hl 0 rfl) ?_
    refine cg0_assembler hx hb hts i0 hown hK hP w0 dDM_place_18 ?_
    refine lv_iload_n hx hb dDM_place_21 rfl (lv_at hl 1 rfl) ?_
    refine cl_rd (W.runV (As := [.int (a)]) (rest := []) ⟨hx, hb, hml, hown, hts⟩ (kAs_placeOf l D q cI cJ cZ hq z0 a (sym_in g1)) (cwV 1 hts (gV wm3_97 wm3_98 wm3_99 wm1_8 wm3_100) rfl rfl rfl (by decide +kernel) ⟨Nat.le_of_ble_eq_true rfl, Nat.le_of_ble_eq_true rfl⟩) (c_preV6 hK hP) rfl rfl hl.1 rfl (lv_room (Nat.le_of_ble_eq_true rfl)) dDM_place_22 ⟨Nat.le_refl _, Nat.le_refl _⟩) ?_
    exact W.iret hx hb hr (fun t ht _ => ⟨by rw [hR]; first | done | rfl, ht⟩) (fun _ h => absurd h List.not_mem_nil) dDM_place_25
  · exact (h4 g1).elim
theorem dDM_start_0 : decode ccDM_start 0 = .ok (.iload_n 1, 1) := by decide +kernel
theorem dDM_start_1 : decode ccDM_start 1 = .ok (.ifCond .lt 10, 3) := by decide +kernel
theorem dDM_start_4 : decode ccDM_start 4 = .ok (.iload_n 1, 1) := by decide +kernel
theorem dDM_start_5 : decode ccDM_start 5 = .ok (.sipush 9999, 3) := by decide +kernel
theorem dDM_start_8 : decode ccDM_start 8 = .ok (.if_icmp .le 13, 3) := by decide +kernel
theorem dDM_start_11 : decode ccDM_start 11 = .ok (.new 63, 3) := by decide +kernel
theorem dDM_start_14 : decode ccDM_start 14 = .ok (.dup, 1) := by decide +kernel
theorem dDM_start_15 : decode ccDM_start 15 = .ok (.ldc 164, 2) := by decide +kernel
theorem dDM_start_17 : decode ccDM_start 17 = .ok (.invokespecial 67, 3) := by decide +kernel
theorem dDM_start_20 : decode ccDM_start 20 = .ok (.athrow, 1) := by decide +kernel
theorem dDM_start_21 : decode ccDM_start 21 = .ok (.aload_n 0, 1) := by decide +kernel
theorem dDM_start_22 : decode ccDM_start 22 = .ok (.getfield 35, 3) := by decide +kernel
theorem dDM_start_25 : decode ccDM_start 25 = .ok (.iload_n 1, 1) := by decide +kernel
theorem dDM_start_26 : decode ccDM_start 26 = .ok (.invokevirtual 166, 3) := by decide +kernel
theorem dDM_start_29 : decode ccDM_start 29 = .ok (.return_, 1) := by decide +kernel
def fDM_start (z0 : SC) (a : Int32) : SC :=
  (if a < 0 then z0 else (if a ≤ (9999 : Int32) then fPr_goOnFrom z0 a else z0))
set_option maxHeartbeats 4000000 in
set_option maxRecDepth 100000 in
theorem kDM_start (l : Launch) (D : va_G) (q : Nat → Nat) (cI cJ cZ : ClassId) (hq : c_inj q) (z0 : SC) (a : Int32) (g1 : ¬ a < 0) (g2 : a ≤ 9999) : Met l yDM_start wsDM_start { frames := 1, cells := 0, slots := 0, locals := 21 } (va_Pc [.ref (q 0), .int (a)] (c_C D q cI cJ cZ z0)) (cQw none (c_W D q cI cJ cZ (fDM_start z0 a)) (c_qs q)) 0 0 (c_qs q) := by
  refine Met.ofW (cc := ccDM_start) (maxL := 2) (ret := none) (by decide +kernel) rfl ?_
  intro p e s m args below meth c s₁ B hml hv
  obtain ⟨rfl, hP, hK⟩ := hv
  have hx := B.exec
  have hb := B.bytes
  have hr := B.returns
  have hts := atoms_spec (ws := wsDM_start) B.pre
  have hown : s.vm.findClass RDM = some m.cls := findClass_of_methodNamed B.named
  have hlocks := B.notSynchronized
  have w0 := hts (.fieldLink RDM 35 "DrumMachine" "processor" "LDrumMachine$Processor;") (List.mem_cons_of_mem _ wm1_182)
  have i0 : ∀ w ∈ u_ws RDM TDM 5, w ∈ wsDM_start := fun w h => List.mem_cons_of_mem _ (inADM w h)
  have hS : va_S (c_qs q) s.heap s.heap [] := va_S.rf
  have hl := lv_entry ([.ref (q 0), .int (a)]) (n := 2) (Nat.le_of_ble_eq_true rfl)
  rw [lg_entry_eq]
  generalize (lg_sl ([.ref (q 0), .int (a)]) ++ List.replicate (2 - (lg_sl ([.ref (q 0), .int (a)])).length) Slot.unset).toArray = ls at hl ⊢
  have hl : lv_has ls 2 [(0, .ref (q 0)), (1, .int (a))] := hl
  have hR := fDM_start.eq_1 z0 a
  refine lv_iload_n hx hb dDM_start_0 rfl (lv_at hl 1 rfl) ?_
  refine lv_if_lt hx hb dDM_start_1 rfl (fun h1 => ?_) (fun h1 => ?_)
  · exact (g1 h1).elim
  · have hR := hR.trans (if_neg h1)
    refine lv_iload_n hx hb dDM_start_4 rfl (lv_at hl 1 rfl) ?_
    refine lv_sipush (v := 9999) hx hb dDM_start_5 (by decide) ?_
    refine lv_icmp_le hx hb dDM_start_8 rfl (fun h8 => ?_) (fun h8 => ?_)
    · have hR := hR.trans (if_pos h8)
      refine lv_aload_n hx hb dDM_start_21 rfl (lv_at hl 0 rfl) ?_
      refine cg0_processor hx hb hts i0 hown hK hP w0 dDM_start_22 ?_
      refine lv_iload_n hx hb dDM_start_25 rfl (lv_at hl 1 rfl) ?_
      refine cl_wr (W.runV (As := [.int (a)]) (rest := []) ⟨hx, hb, hml, hown, hts⟩ (kPr_goOnFrom l D q cI cJ cZ hq z0 a) (cwV 1 hts (gV wm3_109 wm3_110 wm3_111 wm1_6 wm3_112) rfl rfl rfl (by decide +kernel) ⟨Nat.le_of_ble_eq_true rfl, Nat.le_of_ble_eq_true rfl⟩) (c_preV4 hK hP) rfl rfl hl.1 rfl (lv_room (Nat.le_of_ble_eq_true rfl)) dDM_start_26 ⟨Nat.le_refl _, Nat.le_refl _⟩) hS (fun _ h => h) (fun _ h => h) (fun H locs hP hS => ?_)
      exact W.vret hx hb hr (fun t ht _ => ⟨rfl, by rw [hR, ht]; exact hP, hS.F ht⟩) hS.2.2 dDM_start_29
    · exact (h8 g2).elim
theorem dDM_run_0 : decode ccDM_run 0 = .ok (.iload_n 1, 1) := by decide +kernel
theorem dDM_run_1 : decode ccDM_run 1 = .ok (.ifCond .lt 10, 3) := by decide +kernel
theorem dDM_run_4 : decode ccDM_run 4 = .ok (.iload_n 1, 1) := by decide +kernel
theorem dDM_run_5 : decode ccDM_run 5 = .ok (.sipush 300, 3) := by decide +kernel
theorem dDM_run_8 : decode ccDM_run 8 = .ok (.if_icmp .le 13, 3) := by decide +kernel
theorem dDM_run_11 : decode ccDM_run 11 = .ok (.new 63, 3) := by decide +kernel
theorem dDM_run_14 : decode ccDM_run 14 = .ok (.dup, 1) := by decide +kernel
theorem dDM_run_15 : decode ccDM_run 15 = .ok (.ldc 169, 2) := by decide +kernel
theorem dDM_run_17 : decode ccDM_run 17 = .ok (.invokespecial 67, 3) := by decide +kernel
theorem dDM_run_20 : decode ccDM_run 20 = .ok (.athrow, 1) := by decide +kernel
theorem dDM_run_21 : decode ccDM_run 21 = .ok (.aload_n 0, 1) := by decide +kernel
theorem dDM_run_22 : decode ccDM_run 22 = .ok (.getfield 35, 3) := by decide +kernel
theorem dDM_run_25 : decode ccDM_run 25 = .ok (.invokevirtual 171, 3) := by decide +kernel
theorem dDM_run_28 : decode ccDM_run 28 = .ok (.ifCond .eq 13, 3) := by decide +kernel
theorem dDM_run_31 : decode ccDM_run 31 = .ok (.new 91, 3) := by decide +kernel
theorem dDM_run_34 : decode ccDM_run 34 = .ok (.dup, 1) := by decide +kernel
theorem dDM_run_35 : decode ccDM_run 35 = .ok (.ldc 174, 2) := by decide +kernel
theorem dDM_run_37 : decode ccDM_run 37 = .ok (.invokespecial 95, 3) := by decide +kernel
theorem dDM_run_40 : decode ccDM_run 40 = .ok (.athrow, 1) := by decide +kernel
theorem dDM_run_41 : decode ccDM_run 41 = .ok (.aload_n 0, 1) := by decide +kernel
theorem dDM_run_42 : decode ccDM_run 42 = .ok (.getfield 35, 3) := by decide +kernel
theorem dDM_run_45 : decode ccDM_run 45 = .ok (.iload_n 1, 1) := by decide +kernel
theorem dDM_run_46 : decode ccDM_run 46 = .ok (.invokevirtual 176, 3) := by decide +kernel
theorem dDM_run_49 : decode ccDM_run 49 = .ok (.ireturn, 1) := by decide +kernel
def fDM_run (z0 : SC) (a : Int32) : Int32 × SC :=
  (if a < 0 then (0, z0) else (if a ≤ (300 : Int32) then (if (fPr_isStopped z0) = true then (0, z0) else ((fPr_doSteps z0 a).1, (fPr_doSteps z0 a).2)) else (0, z0)))
set_option maxHeartbeats 4000000 in
set_option maxRecDepth 100000 in
theorem kDM_run (l : Launch) (D : va_G) (q : Nat → Nat) (cI cJ cZ : ClassId) (hq : c_inj q) (z0 : SC) (a : Int32) (g1 : ¬ a < 0) (g2 : a ≤ 300) (g3 : ¬ fPr_isStopped z0 = true) (hi : vp_in (c_cfirst z0) 20) (hc : 0 ≤ (c_pcount z0).toInt) : Met l yDM_run wsDM_run { frames := 7, cells := 0, slots := 0, locals := 177 } (va_Pc [.ref (q 0), .int (a)] (c_C D q cI cJ cZ z0)) (cQw (some (.int ((fDM_run z0 a).1))) (c_W D q cI cJ cZ (fDM_run z0 a).2) (c_qs q)) 0 0 (c_qs q) := by
  refine Met.ofW (cc := ccDM_run) (maxL := 2) (ret := (some .int)) (by decide +kernel) rfl ?_
  intro p e s m args below meth c s₁ B hml hv
  obtain ⟨rfl, hP, hK⟩ := hv
  have hx := B.exec
  have hb := B.bytes
  have hr := B.returns
  have hts := atoms_spec (ws := wsDM_run) B.pre
  have hown : s.vm.findClass RDM = some m.cls := findClass_of_methodNamed B.named
  have hlocks := B.notSynchronized
  have w0 := hts (.fieldLink RDM 35 "DrumMachine" "processor" "LDrumMachine$Processor;") (List.mem_cons_of_mem _ wm1_182)
  have i0 : ∀ w ∈ u_ws RDM TDM 5, w ∈ wsDM_run := fun w h => List.mem_cons_of_mem _ (inADM w h)
  have hS : va_S (c_qs q) s.heap s.heap [] := va_S.rf
  have hl := lv_entry ([.ref (q 0), .int (a)]) (n := 2) (Nat.le_of_ble_eq_true rfl)
  rw [lg_entry_eq]
  generalize (lg_sl ([.ref (q 0), .int (a)]) ++ List.replicate (2 - (lg_sl ([.ref (q 0), .int (a)])).length) Slot.unset).toArray = ls at hl ⊢
  have hl : lv_has ls 2 [(0, .ref (q 0)), (1, .int (a))] := hl
  have hR := fDM_run.eq_1 z0 a
  refine lv_iload_n hx hb dDM_run_0 rfl (lv_at hl 1 rfl) ?_
  refine lv_if_lt hx hb dDM_run_1 rfl (fun h1 => ?_) (fun h1 => ?_)
  · exact (g1 h1).elim
  · have hR := hR.trans (if_neg h1)
    refine lv_iload_n hx hb dDM_run_4 rfl (lv_at hl 1 rfl) ?_
    refine lv_sipush (v := 300) hx hb dDM_run_5 (by decide) ?_
    refine lv_icmp_le hx hb dDM_run_8 rfl (fun h8 => ?_) (fun h8 => ?_)
    · have hR := hR.trans (if_pos h8)
      refine lv_aload_n hx hb dDM_run_21 rfl (lv_at hl 0 rfl) ?_
      refine cg0_processor hx hb hts i0 hown hK hP w0 dDM_run_22 ?_
      refine cl_rd (W.runV (As := []) (rest := []) ⟨hx, hb, hml, hown, hts⟩ (kPr_isStopped l D q cI cJ cZ hq z0) (cwV 0 hts (gV wm3_121 wm3_122 wm3_123 wm1_6 wm3_124) rfl rfl rfl (by decide +kernel) ⟨Nat.le_of_ble_eq_true rfl, Nat.le_of_ble_eq_true rfl⟩) (c_preV4 hK hP) rfl rfl hl.1 rfl (lv_room (Nat.le_of_ble_eq_true rfl)) dDM_run_25 ⟨Nat.le_refl _, Nat.le_refl _⟩) ?_
      refine wz_ifeq hx hb dDM_run_28 rfl (fun h28 => ?_) (fun h28 => ?_)
      · have hR := hR.trans (if_neg h28)
        refine lv_aload_n hx hb dDM_run_41 rfl (lv_at hl 0 rfl) ?_
        refine cg0_processor hx hb hts i0 hown hK hP w0 dDM_run_42 ?_
        refine lv_iload_n hx hb dDM_run_45 rfl (lv_at hl 1 rfl) ?_
        refine cl_wr (W.runV (As := [.int (a)]) (rest := []) ⟨hx, hb, hml, hown, hts⟩ (kPr_doSteps l D q cI cJ cZ hq z0 a (le300 g2) hi hc) (cwV 1 hts (gV wm3_126 wm3_127 wm3_128 wm1_6 wm3_129) rfl rfl rfl (by decide +kernel) ⟨Nat.le_of_ble_eq_true rfl, Nat.le_of_ble_eq_true rfl⟩) (c_preV4 hK hP) rfl rfl hl.1 rfl (lv_room (Nat.le_of_ble_eq_true rfl)) dDM_run_46 ⟨Nat.le_refl _, Nat.le_refl _⟩) hS (fun _ h => h) (fun _ h => h) (fun H locs hP hS => ?_)
        exact W.iret hx hb hr (fun t ht _ => ⟨by rw [hR]; first | done | rfl, by rw [hR, ht]; exact hP, hS.F ht⟩) hS.2.2 dDM_run_49
      · exact (g3 h28).elim
    · exact (h8 g2).elim
theorem dDM_fault_0 : decode ccDM_fault 0 = .ok (.aload_n 0, 1) := by decide +kernel
theorem dDM_fault_1 : decode ccDM_fault 1 = .ok (.getfield 35, 3) := by decide +kernel
theorem dDM_fault_4 : decode ccDM_fault 4 = .ok (.invokevirtual 179, 3) := by decide +kernel
theorem dDM_fault_7 : decode ccDM_fault 7 = .ok (.ireturn, 1) := by decide +kernel
def fDM_fault (z0 : SC)  : Int32 :=
  fPr_stopCause z0
set_option maxHeartbeats 4000000 in
set_option maxRecDepth 100000 in
theorem kDM_fault (l : Launch) (D : va_G) (q : Nat → Nat) (cI cJ cZ : ClassId) (hq : c_inj q) (z0 : SC)   : Met l yDM_fault wsDM_fault { frames := 1, cells := 0, slots := 0, locals := 20 } (va_Pc [.ref (q 0)] (c_C D q cI cJ cZ z0)) (cQr (some (.int (fDM_fault z0)))) 0 0 (fun _ => False) := by
  refine Met.ofW (cc := ccDM_fault) (maxL := 1) (ret := (some .int)) (by decide +kernel) rfl ?_
  intro p e s m args below meth c s₁ B hml hv
  obtain ⟨rfl, hP, hK⟩ := hv
  have hx := B.exec
  have hb := B.bytes
  have hr := B.returns
  have hts := atoms_spec (ws := wsDM_fault) B.pre
  have hown : s.vm.findClass RDM = some m.cls := findClass_of_methodNamed B.named
  have hlocks := B.notSynchronized
  have w0 := hts (.fieldLink RDM 35 "DrumMachine" "processor" "LDrumMachine$Processor;") (List.mem_cons_of_mem _ wm1_182)
  have i0 : ∀ w ∈ u_ws RDM TDM 5, w ∈ wsDM_fault := fun w h => List.mem_cons_of_mem _ (inADM w h)
  have hl := lv_entry ([.ref (q 0)]) (n := 1) (Nat.le_of_ble_eq_true rfl)
  rw [lg_entry_eq]
  generalize (lg_sl ([.ref (q 0)]) ++ List.replicate (1 - (lg_sl ([.ref (q 0)])).length) Slot.unset).toArray = ls at hl ⊢
  have hl : lv_has ls 1 [(0, .ref (q 0))] := hl
  have hR := fDM_fault.eq_1 z0
  refine lv_aload_n hx hb dDM_fault_0 rfl (lv_at hl 0 rfl) ?_
  refine cg0_processor hx hb hts i0 hown hK hP w0 dDM_fault_1 ?_
  refine cl_rd (W.runV (As := []) (rest := []) ⟨hx, hb, hml, hown, hts⟩ (kPr_stopCause l D q cI cJ cZ hq z0) (cwV 0 hts (gV wm1_211 wm1_212 wm1_213 wm1_6 wm1_214) rfl rfl rfl (by decide +kernel) ⟨Nat.le_of_ble_eq_true rfl, Nat.le_of_ble_eq_true rfl⟩) (c_preV4 hK hP) rfl rfl hl.1 rfl (lv_room (Nat.le_of_ble_eq_true rfl)) dDM_fault_4 ⟨Nat.le_refl _, Nat.le_refl _⟩) ?_
  exact W.iret hx hb hr (fun t ht _ => ⟨by rw [hR]; first | done | rfl, ht⟩) (fun _ h => absurd h List.not_mem_nil) dDM_fault_7
theorem dDM_time_0 : decode ccDM_time 0 = .ok (.aload_n 0, 1) := by decide +kernel
theorem dDM_time_1 : decode ccDM_time 1 = .ok (.getfield 35, 3) := by decide +kernel
theorem dDM_time_4 : decode ccDM_time 4 = .ok (.invokevirtual 182, 3) := by decide +kernel
theorem dDM_time_7 : decode ccDM_time 7 = .ok (.lreturn, 1) := by decide +kernel
def fDM_time (z0 : SC)  : Int64 :=
  fPr_wordTimes z0
set_option maxHeartbeats 4000000 in
set_option maxRecDepth 100000 in
theorem kDM_time (l : Launch) (D : va_G) (q : Nat → Nat) (cI cJ cZ : ClassId) (hq : c_inj q) (z0 : SC)   : Met l yDM_time wsDM_time { frames := 1, cells := 0, slots := 0, locals := 20 } (va_Pc [.ref (q 0)] (c_C D q cI cJ cZ z0)) (cQr (some (.long (fDM_time z0)))) 0 0 (fun _ => False) := by
  refine Met.ofW (cc := ccDM_time) (maxL := 1) (ret := (some .long)) (by decide +kernel) rfl ?_
  intro p e s m args below meth c s₁ B hml hv
  obtain ⟨rfl, hP, hK⟩ := hv
  have hx := B.exec
  have hb := B.bytes
  have hr := B.returns
  have hts := atoms_spec (ws := wsDM_time) B.pre
  have hown : s.vm.findClass RDM = some m.cls := findClass_of_methodNamed B.named
  have hlocks := B.notSynchronized
  have w0 := hts (.fieldLink RDM 35 "DrumMachine" "processor" "LDrumMachine$Processor;") (List.mem_cons_of_mem _ wm1_182)
  have i0 : ∀ w ∈ u_ws RDM TDM 5, w ∈ wsDM_time := fun w h => List.mem_cons_of_mem _ (inADM w h)
  have hl := lv_entry ([.ref (q 0)]) (n := 1) (Nat.le_of_ble_eq_true rfl)
  rw [lg_entry_eq]
  generalize (lg_sl ([.ref (q 0)]) ++ List.replicate (1 - (lg_sl ([.ref (q 0)])).length) Slot.unset).toArray = ls at hl ⊢
  have hl : lv_has ls 1 [(0, .ref (q 0))] := hl
  have hR := fDM_time.eq_1 z0
  refine lv_aload_n hx hb dDM_time_0 rfl (lv_at hl 0 rfl) ?_
  refine cg0_processor hx hb hts i0 hown hK hP w0 dDM_time_1 ?_
  refine cl_rd (W.runV (As := []) (rest := []) ⟨hx, hb, hml, hown, hts⟩ (kPr_wordTimes l D q cI cJ cZ hq z0) (cwV 0 hts (gV wm1_219 wm1_220 wm1_221 wm1_6 wm1_222) rfl rfl rfl (by decide +kernel) ⟨Nat.le_of_ble_eq_true rfl, Nat.le_of_ble_eq_true rfl⟩) (c_preV4 hK hP) rfl rfl hl.1 rfl (lv_room (Nat.le_of_ble_eq_true rfl)) dDM_time_4 ⟨Nat.le_refl _, Nat.le_refl _⟩) ?_
  exact W.lret hx hb hr (fun t ht _ => ⟨by rw [hR]; first | done | rfl, ht⟩) (fun _ h => absurd h List.not_mem_nil) dDM_time_7
theorem dDM_next_0 : decode ccDM_next 0 = .ok (.aload_n 0, 1) := by decide +kernel
theorem dDM_next_1 : decode ccDM_next 1 = .ok (.getfield 35, 3) := by decide +kernel
theorem dDM_next_4 : decode ccDM_next 4 = .ok (.invokevirtual 208, 3) := by decide +kernel
theorem dDM_next_7 : decode ccDM_next 7 = .ok (.ireturn, 1) := by decide +kernel
def fDM_next (z0 : SC)  : Int32 :=
  fPr_nextAddress z0
set_option maxHeartbeats 4000000 in
set_option maxRecDepth 100000 in
theorem kDM_next (l : Launch) (D : va_G) (q : Nat → Nat) (cI cJ cZ : ClassId) (hq : c_inj q) (z0 : SC)   : Met l yDM_next wsDM_next { frames := 1, cells := 0, slots := 0, locals := 20 } (va_Pc [.ref (q 0)] (c_C D q cI cJ cZ z0)) (cQr (some (.int (fDM_next z0)))) 0 0 (fun _ => False) := by
  refine Met.ofW (cc := ccDM_next) (maxL := 1) (ret := (some .int)) (by decide +kernel) rfl ?_
  intro p e s m args below meth c s₁ B hml hv
  obtain ⟨rfl, hP, hK⟩ := hv
  have hx := B.exec
  have hb := B.bytes
  have hr := B.returns
  have hts := atoms_spec (ws := wsDM_next) B.pre
  have hown : s.vm.findClass RDM = some m.cls := findClass_of_methodNamed B.named
  have hlocks := B.notSynchronized
  have w0 := hts (.fieldLink RDM 35 "DrumMachine" "processor" "LDrumMachine$Processor;") (List.mem_cons_of_mem _ wm1_182)
  have i0 : ∀ w ∈ u_ws RDM TDM 5, w ∈ wsDM_next := fun w h => List.mem_cons_of_mem _ (inADM w h)
  have hl := lv_entry ([.ref (q 0)]) (n := 1) (Nat.le_of_ble_eq_true rfl)
  rw [lg_entry_eq]
  generalize (lg_sl ([.ref (q 0)]) ++ List.replicate (1 - (lg_sl ([.ref (q 0)])).length) Slot.unset).toArray = ls at hl ⊢
  have hl : lv_has ls 1 [(0, .ref (q 0))] := hl
  have hR := fDM_next.eq_1 z0
  refine lv_aload_n hx hb dDM_next_0 rfl (lv_at hl 0 rfl) ?_
  refine cg0_processor hx hb hts i0 hown hK hP w0 dDM_next_1 ?_
  refine cl_rd (W.runV (As := []) (rest := []) ⟨hx, hb, hml, hown, hts⟩ (kPr_nextAddress l D q cI cJ cZ hq z0) (cwV 0 hts (gV wm1_227 wm1_228 wm1_229 wm1_6 wm1_230) rfl rfl rfl (by decide +kernel) ⟨Nat.le_of_ble_eq_true rfl, Nat.le_of_ble_eq_true rfl⟩) (c_preV4 hK hP) rfl rfl hl.1 rfl (lv_room (Nat.le_of_ble_eq_true rfl)) dDM_next_4 ⟨Nat.le_refl _, Nat.le_refl _⟩) ?_
  exact W.iret hx hb hr (fun t ht _ => ⟨by rw [hR]; first | done | rfl, ht⟩) (fun _ h => absurd h List.not_mem_nil) dDM_next_7
theorem dDM_outputs_0 : decode ccDM_outputs 0 = .ok (.aload_n 0, 1) := by decide +kernel
theorem dDM_outputs_1 : decode ccDM_outputs 1 = .ok (.getfield 26, 3) := by decide +kernel
theorem dDM_outputs_4 : decode ccDM_outputs 4 = .ok (.invokevirtual 232, 3) := by decide +kernel
theorem dDM_outputs_7 : decode ccDM_outputs 7 = .ok (.ireturn, 1) := by decide +kernel
def fDM_outputs (z0 : SC)  : Int32 :=
  fPu_size z0
set_option maxHeartbeats 4000000 in
set_option maxRecDepth 100000 in
theorem kDM_outputs (l : Launch) (D : va_G) (q : Nat → Nat) (cI cJ cZ : ClassId) (hq : c_inj q) (z0 : SC)   : Met l yDM_outputs wsDM_outputs { frames := 1, cells := 0, slots := 0, locals := 20 } (va_Pc [.ref (q 0)] (c_C D q cI cJ cZ z0)) (cQr (some (.int (fDM_outputs z0)))) 0 0 (fun _ => False) := by
  refine Met.ofW (cc := ccDM_outputs) (maxL := 1) (ret := (some .int)) (by decide +kernel) rfl ?_
  intro p e s m args below meth c s₁ B hml hv
  obtain ⟨rfl, hP, hK⟩ := hv
  have hx := B.exec
  have hb := B.bytes
  have hr := B.returns
  have hts := atoms_spec (ws := wsDM_outputs) B.pre
  have hown : s.vm.findClass RDM = some m.cls := findClass_of_methodNamed B.named
  have hlocks := B.notSynchronized
  have w0 := hts (.fieldLink RDM 26 "DrumMachine" "punch" "LDrumMachine$Punch;") (List.mem_cons_of_mem _ wm1_181)
  have i0 : ∀ w ∈ u_ws RDM TDM 5, w ∈ wsDM_outputs := fun w h => List.mem_cons_of_mem _ (inADM w h)
  have hl := lv_entry ([.ref (q 0)]) (n := 1) (Nat.le_of_ble_eq_true rfl)
  rw [lg_entry_eq]
  generalize (lg_sl ([.ref (q 0)]) ++ List.replicate (1 - (lg_sl ([.ref (q 0)])).length) Slot.unset).toArray = ls at hl ⊢
  have hl : lv_has ls 1 [(0, .ref (q 0))] := hl
  have hR := fDM_outputs.eq_1 z0
  refine lv_aload_n hx hb dDM_outputs_0 rfl (lv_at hl 0 rfl) ?_
  refine cg0_punch hx hb hts i0 hown hK hP w0 dDM_outputs_1 ?_
  refine cl_rd (W.runV (As := []) (rest := []) ⟨hx, hb, hml, hown, hts⟩ (kPu_size l D q cI cJ cZ hq z0) (cwV 0 hts (gV wm1_235 wm1_236 wm1_237 wm1_5 wm1_238) rfl rfl rfl (by decide +kernel) ⟨Nat.le_of_ble_eq_true rfl, Nat.le_of_ble_eq_true rfl⟩) (c_preV3 hK hP) rfl rfl hl.1 rfl (lv_room (Nat.le_of_ble_eq_true rfl)) dDM_outputs_4 ⟨Nat.le_refl _, Nat.le_refl _⟩) ?_
  exact W.iret hx hb hr (fun t ht _ => ⟨by rw [hR]; first | done | rfl, ht⟩) (fun _ h => absurd h List.not_mem_nil) dDM_outputs_7
theorem dDM_register_0 : decode ccDM_register 0 = .ok (.iload_n 1, 1) := by decide +kernel
theorem dDM_register_1 : decode ccDM_register 1 = .ok (.tableswitch 51 0 2 #[27, 35, 43], 27) := by decide +kernel
theorem dDM_register_28 : decode ccDM_register 28 = .ok (.aload_n 0, 1) := by decide +kernel
theorem dDM_register_29 : decode ccDM_register 29 = .ok (.getfield 35, 3) := by decide +kernel
theorem dDM_register_32 : decode ccDM_register 32 = .ok (.invokevirtual 186, 3) := by decide +kernel
theorem dDM_register_35 : decode ccDM_register 35 = .ok (.lreturn, 1) := by decide +kernel
theorem dDM_register_36 : decode ccDM_register 36 = .ok (.aload_n 0, 1) := by decide +kernel
theorem dDM_register_37 : decode ccDM_register 37 = .ok (.getfield 35, 3) := by decide +kernel
theorem dDM_register_40 : decode ccDM_register 40 = .ok (.invokevirtual 189, 3) := by decide +kernel
theorem dDM_register_43 : decode ccDM_register 43 = .ok (.lreturn, 1) := by decide +kernel
theorem dDM_register_44 : decode ccDM_register 44 = .ok (.aload_n 0, 1) := by decide +kernel
theorem dDM_register_45 : decode ccDM_register 45 = .ok (.getfield 35, 3) := by decide +kernel
theorem dDM_register_48 : decode ccDM_register 48 = .ok (.invokevirtual 192, 3) := by decide +kernel
theorem dDM_register_51 : decode ccDM_register 51 = .ok (.lreturn, 1) := by decide +kernel
theorem dDM_register_52 : decode ccDM_register 52 = .ok (.new 50, 3) := by decide +kernel
theorem dDM_register_55 : decode ccDM_register 55 = .ok (.dup, 1) := by decide +kernel
theorem dDM_register_56 : decode ccDM_register 56 = .ok (.ldc 195, 2) := by decide +kernel
theorem dDM_register_58 : decode ccDM_register 58 = .ok (.invokespecial 54, 3) := by decide +kernel
theorem dDM_register_61 : decode ccDM_register 61 = .ok (.athrow, 1) := by decide +kernel
def fDM_register (z0 : SC) (a : Int32) : Int64 :=
  (if a = 0 then fPr_upperDigits z0 else (if a = 1 then fPr_lowerDigits z0 else (if a = 2 then fPr_distributorDigits z0 else 0)))
set_option maxHeartbeats 4000000 in
set_option maxRecDepth 100000 in
theorem kDM_register (l : Launch) (D : va_G) (q : Nat → Nat) (cI cJ cZ : ClassId) (hq : c_inj q) (z0 : SC) (a : Int32) (g1 : a = 0 ∨ a = 1 ∨ a = 2) : Met l yDM_register wsDM_register { frames := 2, cells := 0, slots := 0, locals := 40 } (va_Pc [.ref (q 0), .int (a)] (c_C D q cI cJ cZ z0)) (cQr (some (.long (fDM_register z0 a)))) 0 0 (fun _ => False) := by
  refine Met.ofW (cc := ccDM_register) (maxL := 2) (ret := (some .long)) (by decide +kernel) rfl ?_
  intro p e s m args below meth c s₁ B hml hv
  obtain ⟨rfl, hP, hK⟩ := hv
  have hx := B.exec
  have hb := B.bytes
  have hr := B.returns
  have hts := atoms_spec (ws := wsDM_register) B.pre
  have hown : s.vm.findClass RDM = some m.cls := findClass_of_methodNamed B.named
  have hlocks := B.notSynchronized
  have w0 := hts (.fieldLink RDM 35 "DrumMachine" "processor" "LDrumMachine$Processor;") (List.mem_cons_of_mem _ wm1_182)
  have i0 : ∀ w ∈ u_ws RDM TDM 5, w ∈ wsDM_register := fun w h => List.mem_cons_of_mem _ (inADM w h)
  have hl := lv_entry ([.ref (q 0), .int (a)]) (n := 2) (Nat.le_of_ble_eq_true rfl)
  rw [lg_entry_eq]
  generalize (lg_sl ([.ref (q 0), .int (a)]) ++ List.replicate (2 - (lg_sl ([.ref (q 0), .int (a)])).length) Slot.unset).toArray = ls at hl ⊢
  have hl : lv_has ls 2 [(0, .ref (q 0)), (1, .int (a))] := hl
  have hR := fDM_register.eq_1 z0 a
  refine lv_iload_n hx hb dDM_register_0 rfl (lv_at hl 1 rfl) ?_
  by_cases h1_0 : a = 0
  · have hR := hR.trans (if_pos h1_0)
    refine lv_tableIn (off := 27) (tgt := 28) hx hb dDM_register_1 (by rw [h1_0]; decide) (by rw [h1_0]; decide) (by rw [h1_0]; decide) rfl ?_
    refine lv_aload_n hx hb dDM_register_28 rfl (lv_at hl 0 rfl) ?_
    refine cg0_processor hx hb hts i0 hown hK hP w0 dDM_register_29 ?_
    refine cl_rd (W.runV (As := []) (rest := []) ⟨hx, hb, hml, hown, hts⟩ (kPr_upperDigits l D q cI cJ cZ hq z0) (cwV 0 hts (gV wm4_109 wm4_110 wm4_111 wm1_6 wm4_112) rfl rfl rfl (by decide +kernel) ⟨Nat.le_of_ble_eq_true rfl, Nat.le_of_ble_eq_true rfl⟩) (c_preV4 hK hP) rfl rfl hl.1 rfl (lv_room (Nat.le_of_ble_eq_true rfl)) dDM_register_32 ⟨Nat.le_refl _, Nat.le_refl _⟩) ?_
    exact W.lret hx hb hr (fun t ht _ => ⟨by rw [hR]; first | done | rfl, ht⟩) (fun _ h => absurd h List.not_mem_nil) dDM_register_35
  · have hR := hR.trans (if_neg h1_0)
    by_cases h1_1 : a = 1
    · have hR := hR.trans (if_pos h1_1)
      refine lv_tableIn (off := 35) (tgt := 36) hx hb dDM_register_1 (by rw [h1_1]; decide) (by rw [h1_1]; decide) (by rw [h1_1]; decide) rfl ?_
      refine lv_aload_n hx hb dDM_register_36 rfl (lv_at hl 0 rfl) ?_
      refine cg0_processor hx hb hts i0 hown hK hP w0 dDM_register_37 ?_
      refine cl_rd (W.runV (As := []) (rest := []) ⟨hx, hb, hml, hown, hts⟩ (kPr_lowerDigits l D q cI cJ cZ hq z0) (cwV 0 hts (gV wm4_113 wm4_114 wm4_115 wm1_6 wm4_116) rfl rfl rfl (by decide +kernel) ⟨Nat.le_of_ble_eq_true rfl, Nat.le_of_ble_eq_true rfl⟩) (c_preV4 hK hP) rfl rfl hl.1 rfl (lv_room (Nat.le_of_ble_eq_true rfl)) dDM_register_40 ⟨Nat.le_refl _, Nat.le_refl _⟩) ?_
      exact W.lret hx hb hr (fun t ht _ => ⟨by rw [hR]; first | done | rfl, ht⟩) (fun _ h => absurd h List.not_mem_nil) dDM_register_43
    · have hR := hR.trans (if_neg h1_1)
      by_cases h1_2 : a = 2
      · have hR := hR.trans (if_pos h1_2)
        refine lv_tableIn (off := 43) (tgt := 44) hx hb dDM_register_1 (by rw [h1_2]; decide) (by rw [h1_2]; decide) (by rw [h1_2]; decide) rfl ?_
        refine lv_aload_n hx hb dDM_register_44 rfl (lv_at hl 0 rfl) ?_
        refine cg0_processor hx hb hts i0 hown hK hP w0 dDM_register_45 ?_
        refine cl_rd (W.runV (As := []) (rest := []) ⟨hx, hb, hml, hown, hts⟩ (kPr_distributorDigits l D q cI cJ cZ hq z0) (cwV 0 hts (gV wm4_117 wm4_118 wm4_119 wm1_6 wm4_120) rfl rfl rfl (by decide +kernel) ⟨Nat.le_of_ble_eq_true rfl, Nat.le_of_ble_eq_true rfl⟩) (c_preV4 hK hP) rfl rfl hl.1 rfl (lv_room (Nat.le_of_ble_eq_true rfl)) dDM_register_48 ⟨Nat.le_refl _, Nat.le_refl _⟩) ?_
        exact W.lret hx hb hr (fun t ht _ => ⟨by rw [hR]; first | done | rfl, ht⟩) (fun _ h => absurd h List.not_mem_nil) dDM_register_51
      · have hR := hR.trans (if_neg h1_2)
        exact (g1.elim h1_0 (fun h => h.elim h1_1 h1_2)).elim
theorem dDM_sign_0 : decode ccDM_sign 0 = .ok (.iload_n 1, 1) := by decide +kernel
theorem dDM_sign_1 : decode ccDM_sign 1 = .ok (.tableswitch 51 0 2 #[27, 35, 43], 27) := by decide +kernel
theorem dDM_sign_28 : decode ccDM_sign 28 = .ok (.aload_n 0, 1) := by decide +kernel
theorem dDM_sign_29 : decode ccDM_sign 29 = .ok (.getfield 35, 3) := by decide +kernel
theorem dDM_sign_32 : decode ccDM_sign 32 = .ok (.invokevirtual 197, 3) := by decide +kernel
theorem dDM_sign_35 : decode ccDM_sign 35 = .ok (.ireturn, 1) := by decide +kernel
theorem dDM_sign_36 : decode ccDM_sign 36 = .ok (.aload_n 0, 1) := by decide +kernel
theorem dDM_sign_37 : decode ccDM_sign 37 = .ok (.getfield 35, 3) := by decide +kernel
theorem dDM_sign_40 : decode ccDM_sign 40 = .ok (.invokevirtual 200, 3) := by decide +kernel
theorem dDM_sign_43 : decode ccDM_sign 43 = .ok (.ireturn, 1) := by decide +kernel
theorem dDM_sign_44 : decode ccDM_sign 44 = .ok (.aload_n 0, 1) := by decide +kernel
theorem dDM_sign_45 : decode ccDM_sign 45 = .ok (.getfield 35, 3) := by decide +kernel
theorem dDM_sign_48 : decode ccDM_sign 48 = .ok (.invokevirtual 203, 3) := by decide +kernel
theorem dDM_sign_51 : decode ccDM_sign 51 = .ok (.ireturn, 1) := by decide +kernel
theorem dDM_sign_52 : decode ccDM_sign 52 = .ok (.new 50, 3) := by decide +kernel
theorem dDM_sign_55 : decode ccDM_sign 55 = .ok (.dup, 1) := by decide +kernel
theorem dDM_sign_56 : decode ccDM_sign 56 = .ok (.ldc 206, 2) := by decide +kernel
theorem dDM_sign_58 : decode ccDM_sign 58 = .ok (.invokespecial 54, 3) := by decide +kernel
theorem dDM_sign_61 : decode ccDM_sign 61 = .ok (.athrow, 1) := by decide +kernel
def fDM_sign (z0 : SC) (a : Int32) : Bool :=
  (if a = 0 then fPr_accumulatorIsMinus z0 else (if a = 1 then fPr_distributorIsMinus z0 else (if a = 2 then fPr_overflowIsOn z0 else false)))
set_option maxHeartbeats 4000000 in
set_option maxRecDepth 100000 in
theorem kDM_sign (l : Launch) (D : va_G) (q : Nat → Nat) (cI cJ cZ : ClassId) (hq : c_inj q) (z0 : SC) (a : Int32) (g1 : a = 0 ∨ a = 1 ∨ a = 2) : Met l yDM_sign wsDM_sign { frames := 2, cells := 0, slots := 0, locals := 40 } (va_Pc [.ref (q 0), .int (a)] (c_C D q cI cJ cZ z0)) (cQr (some (.int (bb (fDM_sign z0 a))))) 0 0 (fun _ => False) := by
  refine Met.ofW (cc := ccDM_sign) (maxL := 2) (ret := (some .boolean)) (by decide +kernel) rfl ?_
  intro p e s m args below meth c s₁ B hml hv
  obtain ⟨rfl, hP, hK⟩ := hv
  have hx := B.exec
  have hb := B.bytes
  have hr := B.returns
  have hts := atoms_spec (ws := wsDM_sign) B.pre
  have hown : s.vm.findClass RDM = some m.cls := findClass_of_methodNamed B.named
  have hlocks := B.notSynchronized
  have w0 := hts (.fieldLink RDM 35 "DrumMachine" "processor" "LDrumMachine$Processor;") (List.mem_cons_of_mem _ wm1_182)
  have i0 : ∀ w ∈ u_ws RDM TDM 5, w ∈ wsDM_sign := fun w h => List.mem_cons_of_mem _ (inADM w h)
  have hl := lv_entry ([.ref (q 0), .int (a)]) (n := 2) (Nat.le_of_ble_eq_true rfl)
  rw [lg_entry_eq]
  generalize (lg_sl ([.ref (q 0), .int (a)]) ++ List.replicate (2 - (lg_sl ([.ref (q 0), .int (a)])).length) Slot.unset).toArray = ls at hl ⊢
  have hl : lv_has ls 2 [(0, .ref (q 0)), (1, .int (a))] := hl
  have hR := fDM_sign.eq_1 z0 a
  refine lv_iload_n hx hb dDM_sign_0 rfl (lv_at hl 1 rfl) ?_
  by_cases h1_0 : a = 0
  · have hR := hR.trans (if_pos h1_0)
    refine lv_tableIn (off := 27) (tgt := 28) hx hb dDM_sign_1 (by rw [h1_0]; decide) (by rw [h1_0]; decide) (by rw [h1_0]; decide) rfl ?_
    refine lv_aload_n hx hb dDM_sign_28 rfl (lv_at hl 0 rfl) ?_
    refine cg0_processor hx hb hts i0 hown hK hP w0 dDM_sign_29 ?_
    refine cl_rd (W.runV (As := []) (rest := []) ⟨hx, hb, hml, hown, hts⟩ (kPr_accumulatorIsMinus l D q cI cJ cZ hq z0) (cwV 0 hts (gV wm4_129 wm4_130 wm4_131 wm1_6 wm4_132) rfl rfl rfl (by decide +kernel) ⟨Nat.le_of_ble_eq_true rfl, Nat.le_of_ble_eq_true rfl⟩) (c_preV4 hK hP) rfl rfl hl.1 rfl (lv_room (Nat.le_of_ble_eq_true rfl)) dDM_sign_32 ⟨Nat.le_refl _, Nat.le_refl _⟩) ?_
    exact W.zret hx hb hr (nz_b _) (fun t ht _ => ⟨by rw [hR]; first | done | rfl, ht⟩) (fun _ h => absurd h List.not_mem_nil) dDM_sign_35
  · have hR := hR.trans (if_neg h1_0)
    by_cases h1_1 : a = 1
    · have hR := hR.trans (if_pos h1_1)
      refine lv_tableIn (off := 35) (tgt := 36) hx hb dDM_sign_1 (by rw [h1_1]; decide) (by rw [h1_1]; decide) (by rw [h1_1]; decide) rfl ?_
      refine lv_aload_n hx hb dDM_sign_36 rfl (lv_at hl 0 rfl) ?_
      refine cg0_processor hx hb hts i0 hown hK hP w0 dDM_sign_37 ?_
      refine cl_rd (W.runV (As := []) (rest := []) ⟨hx, hb, hml, hown, hts⟩ (kPr_distributorIsMinus l D q cI cJ cZ hq z0) (cwV 0 hts (gV wm4_133 wm4_134 wm4_135 wm1_6 wm4_136) rfl rfl rfl (by decide +kernel) ⟨Nat.le_of_ble_eq_true rfl, Nat.le_of_ble_eq_true rfl⟩) (c_preV4 hK hP) rfl rfl hl.1 rfl (lv_room (Nat.le_of_ble_eq_true rfl)) dDM_sign_40 ⟨Nat.le_refl _, Nat.le_refl _⟩) ?_
      exact W.zret hx hb hr (nz_b _) (fun t ht _ => ⟨by rw [hR]; first | done | rfl, ht⟩) (fun _ h => absurd h List.not_mem_nil) dDM_sign_43
    · have hR := hR.trans (if_neg h1_1)
      by_cases h1_2 : a = 2
      · have hR := hR.trans (if_pos h1_2)
        refine lv_tableIn (off := 43) (tgt := 44) hx hb dDM_sign_1 (by rw [h1_2]; decide) (by rw [h1_2]; decide) (by rw [h1_2]; decide) rfl ?_
        refine lv_aload_n hx hb dDM_sign_44 rfl (lv_at hl 0 rfl) ?_
        refine cg0_processor hx hb hts i0 hown hK hP w0 dDM_sign_45 ?_
        refine cl_rd (W.runV (As := []) (rest := []) ⟨hx, hb, hml, hown, hts⟩ (kPr_overflowIsOn l D q cI cJ cZ hq z0) (cwV 0 hts (gV wm4_137 wm4_138 wm4_139 wm1_6 wm4_140) rfl rfl rfl (by decide +kernel) ⟨Nat.le_of_ble_eq_true rfl, Nat.le_of_ble_eq_true rfl⟩) (c_preV4 hK hP) rfl rfl hl.1 rfl (lv_room (Nat.le_of_ble_eq_true rfl)) dDM_sign_48 ⟨Nat.le_refl _, Nat.le_refl _⟩) ?_
        exact W.zret hx hb hr (nz_b _) (fun t ht _ => ⟨by rw [hR]; first | done | rfl, ht⟩) (fun _ h => absurd h List.not_mem_nil) dDM_sign_51
      · have hR := hR.trans (if_neg h1_2)
        exact (g1.elim h1_0 (fun h => h.elim h1_1 h1_2)).elim
theorem dDM_get_0 : decode ccDM_get 0 = .ok (.iload_n 1, 1) := by decide +kernel
theorem dDM_get_1 : decode ccDM_get 1 = .ok (.invokestatic 46, 3) := by decide +kernel
theorem dDM_get_4 : decode ccDM_get 4 = .ok (.ifCond .ne 13, 3) := by decide +kernel
theorem dDM_get_7 : decode ccDM_get 7 = .ok (.new 50, 3) := by decide +kernel
theorem dDM_get_10 : decode ccDM_get 10 = .ok (.dup, 1) := by decide +kernel
theorem dDM_get_11 : decode ccDM_get 11 = .ok (.ldc 52, 2) := by decide +kernel
theorem dDM_get_13 : decode ccDM_get 13 = .ok (.invokespecial 54, 3) := by decide +kernel
theorem dDM_get_16 : decode ccDM_get 16 = .ok (.athrow, 1) := by decide +kernel
theorem dDM_get_17 : decode ccDM_get 17 = .ok (.aload_n 0, 1) := by decide +kernel
theorem dDM_get_18 : decode ccDM_get 18 = .ok (.getfield 10, 3) := by decide +kernel
theorem dDM_get_21 : decode ccDM_get 21 = .ok (.iload_n 1, 1) := by decide +kernel
theorem dDM_get_22 : decode ccDM_get 22 = .ok (.invokevirtual 82, 3) := by decide +kernel
theorem dDM_get_25 : decode ccDM_get 25 = .ok (.ifCond .ne 7, 3) := by decide +kernel
theorem dDM_get_28 : decode ccDM_get 28 = .ok (.ldc2_w 211, 3) := by decide +kernel
theorem dDM_get_31 : decode ccDM_get 31 = .ok (.lreturn, 1) := by decide +kernel
theorem dDM_get_32 : decode ccDM_get 32 = .ok (.aload_n 0, 1) := by decide +kernel
theorem dDM_get_33 : decode ccDM_get 33 = .ok (.getfield 10, 3) := by decide +kernel
theorem dDM_get_36 : decode ccDM_get 36 = .ok (.iload_n 1, 1) := by decide +kernel
theorem dDM_get_37 : decode ccDM_get 37 = .ok (.invokevirtual 213, 3) := by decide +kernel
theorem dDM_get_40 : decode ccDM_get 40 = .ok (.aload_n 0, 1) := by decide +kernel
theorem dDM_get_41 : decode ccDM_get 41 = .ok (.getfield 10, 3) := by decide +kernel
theorem dDM_get_44 : decode ccDM_get 44 = .ok (.iload_n 1, 1) := by decide +kernel
theorem dDM_get_45 : decode ccDM_get 45 = .ok (.invokevirtual 217, 3) := by decide +kernel
theorem dDM_get_48 : decode ccDM_get 48 = .ok (.invokestatic 220, 3) := by decide +kernel
theorem dDM_get_51 : decode ccDM_get 51 = .ok (.lreturn, 1) := by decide +kernel
def fDM_get (z0 : SC) (a : Int32) : Int64 :=
  (if (fDr_hasAddress a) = true then (if (fDr_isValid z0 a) = true then fDg_withSign (fDr_valueAt z0 a) (fDr_isMinus z0 a) else (-10000000000)) else 0)
set_option maxHeartbeats 4000000 in
set_option maxRecDepth 100000 in
theorem kDM_get (l : Launch) (D : va_G) (q : Nat → Nat) (cI cJ cZ : ClassId) (hq : c_inj q) (z0 : SC) (a : Int32) (g1 : fDr_hasAddress a = true) : Met l yDM_get wsDM_get { frames := 1, cells := 0, slots := 0, locals := 22 } (va_Pc [.ref (q 0), .int (a)] (c_C D q cI cJ cZ z0)) (cQr (some (.long (fDM_get z0 a)))) 0 0 (fun _ => False) := by
  refine Met.ofW (cc := ccDM_get) (maxL := 2) (ret := (some .long)) (by decide +kernel) rfl ?_
  intro p e s m args below meth c s₁ B hml hv
  obtain ⟨rfl, hP, hK⟩ := hv
  have hx := B.exec
  have hb := B.bytes
  have hr := B.returns
  have hts := atoms_spec (ws := wsDM_get) B.pre
  have hown : s.vm.findClass RDM = some m.cls := findClass_of_methodNamed B.named
  have hlocks := B.notSynchronized
  have w0 := hts (.fieldLink RDM 10 "DrumMachine" "drum" "LDrumMachine$Drum;") (List.mem_cons_of_mem _ wm1_179)
  have w1 := hts (.constantLong RDM 211 (-10000000000)) (List.mem_cons_of_mem _ wm4_153)
  have i0 : ∀ w ∈ u_ws RDM TDM 5, w ∈ wsDM_get := fun w h => List.mem_cons_of_mem _ (inADM w h)
  have hl := lv_entry ([.ref (q 0), .int (a)]) (n := 2) (Nat.le_of_ble_eq_true rfl)
  rw [lg_entry_eq]
  generalize (lg_sl ([.ref (q 0), .int (a)]) ++ List.replicate (2 - (lg_sl ([.ref (q 0), .int (a)])).length) Slot.unset).toArray = ls at hl ⊢
  have hl : lv_has ls 2 [(0, .ref (q 0)), (1, .int (a))] := hl
  have hR := fDM_get.eq_1 z0 a
  refine lv_iload_n hx hb dDM_get_0 rfl (lv_at hl 1 rfl) ?_
  refine cl_rd (W.runS (As := [.int (a)]) (rest := []) ⟨hx, hb, hml, hown, hts⟩ (kDr_hasAddress l a) (va_cwS 1 hts (gS wm2_8 wm2_9 wm1_2 wm2_10) rfl rfl rfl (by decide +kernel) ⟨Nat.le_of_ble_eq_true rfl, Nat.le_of_ble_eq_true rfl⟩) (preT) rfl rfl hl.1 rfl (lv_room (Nat.le_of_ble_eq_true rfl)) dDM_get_1 ⟨Nat.le_refl _, Nat.le_refl _⟩) ?_
  refine wz_ifne hx hb dDM_get_4 rfl (fun h4 => ?_) (fun h4 => ?_)
  · have hR := hR.trans (if_pos h4)
    refine lv_aload_n hx hb dDM_get_17 rfl (lv_at hl 0 rfl) ?_
    refine cg0_drum hx hb hts i0 hown hK hP w0 dDM_get_18 ?_
    refine lv_iload_n hx hb dDM_get_21 rfl (lv_at hl 1 rfl) ?_
    refine cl_rd (W.runV (As := [.int (a)]) (rest := []) ⟨hx, hb, hml, hown, hts⟩ (kDr_isValid l D q cI cJ cZ hq z0 a (has_in g1)) (cwV 1 hts (gV wm2_129 wm2_130 wm2_131 wm1_2 wm2_132) rfl rfl rfl (by decide +kernel) ⟨Nat.le_of_ble_eq_true rfl, Nat.le_of_ble_eq_true rfl⟩) (c_preV1 hK hP) rfl rfl hl.1 rfl (lv_room (Nat.le_of_ble_eq_true rfl)) dDM_get_22 ⟨Nat.le_refl _, Nat.le_refl _⟩) ?_
    refine wz_ifne hx hb dDM_get_25 rfl (fun h25 => ?_) (fun h25 => ?_)
    · have hR := hR.trans (if_pos h25)
      refine lv_aload_n hx hb dDM_get_32 rfl (lv_at hl 0 rfl) ?_
      refine cg0_drum hx hb hts i0 hown hK hP w0 dDM_get_33 ?_
      refine lv_iload_n hx hb dDM_get_36 rfl (lv_at hl 1 rfl) ?_
      refine cl_rd (W.runV (As := [.int (a)]) (rest := []) ⟨hx, hb, hml, hown, hts⟩ (kDr_valueAt l D q cI cJ cZ hq z0 a (has_in g1)) (cwV 1 hts (gV wm4_154 wm3_146 wm3_147 wm1_2 wm3_148) rfl rfl rfl (by decide +kernel) ⟨Nat.le_of_ble_eq_true rfl, Nat.le_of_ble_eq_true rfl⟩) (c_preV1 hK hP) rfl rfl hl.1 rfl (lv_room (Nat.le_of_ble_eq_true rfl)) dDM_get_37 ⟨Nat.le_refl _, Nat.le_refl _⟩) ?_
      refine lv_aload_n hx hb dDM_get_40 rfl (lv_at hl 0 rfl) ?_
      refine cg0_drum hx hb hts i0 hown hK hP w0 dDM_get_41 ?_
      refine lv_iload_n hx hb dDM_get_44 rfl (lv_at hl 1 rfl) ?_
      refine cl_rd (W.runV (As := [.int (a)]) (rest := [.long (fDr_valueAt z0 a)]) ⟨hx, hb, hml, hown, hts⟩ (kDr_isMinus l D q cI cJ cZ hq z0 a (has_in g1)) (cwV 1 hts (gV wm4_155 wm4_20 wm4_21 wm1_2 wm4_22) rfl rfl rfl (by decide +kernel) ⟨Nat.le_of_ble_eq_true rfl, Nat.le_of_ble_eq_true rfl⟩) (c_preV1 hK hP) rfl rfl hl.1 rfl (lv_room (Nat.le_of_ble_eq_true rfl)) dDM_get_45 ⟨Nat.le_refl _, Nat.le_refl _⟩) ?_
      refine cl_rd (W.runS (As := [.long ((fDr_valueAt z0 a)), .int (bb ((fDr_isMinus z0 a)))]) (rest := []) ⟨hx, hb, hml, hown, hts⟩ (kDg_withSign l (fDr_valueAt z0 a) (fDr_isMinus z0 a)) (va_cwS 2 hts (gS wm4_156 wm4_45 wm1_14 wm4_46) rfl rfl rfl (by decide +kernel) ⟨Nat.le_of_ble_eq_true rfl, Nat.le_of_ble_eq_true rfl⟩) (preT) rfl rfl hl.1 rfl (lv_room (Nat.le_of_ble_eq_true rfl)) dDM_get_48 ⟨Nat.le_refl _, Nat.le_refl _⟩) ?_
      exact W.lret hx hb hr (fun t ht _ => ⟨by rw [hR]; first | done | rfl, ht⟩) (fun _ h => absurd h List.not_mem_nil) dDM_get_51
    · have hR := hR.trans (if_neg h25)
      refine lv_ldc2 (v := (-10000000000)) hx hb hown w1 dDM_get_28 ?_
      exact W.lret hx hb hr (fun t ht _ => ⟨by rw [hR]; first | done | rfl, ht⟩) (fun _ h => absurd h List.not_mem_nil) dDM_get_31
  · exact (h4 g1).elim
theorem dDM_output_0 : decode ccDM_output 0 = .ok (.aload_n 0, 1) := by decide +kernel
theorem dDM_output_1 : decode ccDM_output 1 = .ok (.getfield 26, 3) := by decide +kernel
theorem dDM_output_4 : decode ccDM_output 4 = .ok (.iload_n 1, 1) := by decide +kernel
theorem dDM_output_5 : decode ccDM_output 5 = .ok (.invokevirtual 224, 3) := by decide +kernel
theorem dDM_output_8 : decode ccDM_output 8 = .ok (.ifCond .ne 13, 3) := by decide +kernel
theorem dDM_output_11 : decode ccDM_output 11 = .ok (.new 50, 3) := by decide +kernel
theorem dDM_output_14 : decode ccDM_output 14 = .ok (.dup, 1) := by decide +kernel
theorem dDM_output_15 : decode ccDM_output 15 = .ok (.ldc 227, 2) := by decide +kernel
theorem dDM_output_17 : decode ccDM_output 17 = .ok (.invokespecial 54, 3) := by decide +kernel
theorem dDM_output_20 : decode ccDM_output 20 = .ok (.athrow, 1) := by decide +kernel
theorem dDM_output_21 : decode ccDM_output 21 = .ok (.aload_n 0, 1) := by decide +kernel
theorem dDM_output_22 : decode ccDM_output 22 = .ok (.getfield 26, 3) := by decide +kernel
theorem dDM_output_25 : decode ccDM_output 25 = .ok (.iload_n 1, 1) := by decide +kernel
theorem dDM_output_26 : decode ccDM_output 26 = .ok (.invokevirtual 229, 3) := by decide +kernel
theorem dDM_output_29 : decode ccDM_output 29 = .ok (.lreturn, 1) := by decide +kernel
def fDM_output (z0 : SC) (a : Int32) : Int64 :=
  (if (fPu_hasWord z0 a) = true then fPu_wordAt z0 a else 0)
set_option maxHeartbeats 4000000 in
set_option maxRecDepth 100000 in
theorem kDM_output (l : Launch) (D : va_G) (q : Nat → Nat) (cI cJ cZ : ClassId) (hq : c_inj q) (z0 : SC) (a : Int32) (hc : (c_pcount z0).toInt ≤ 40) (g1 : fPu_hasWord z0 a = true) : Met l yDM_output wsDM_output { frames := 1, cells := 0, slots := 0, locals := 21 } (va_Pc [.ref (q 0), .int (a)] (c_C D q cI cJ cZ z0)) (cQr (some (.long (fDM_output z0 a)))) 0 0 (fun _ => False) := by
  refine Met.ofW (cc := ccDM_output) (maxL := 2) (ret := (some .long)) (by decide +kernel) rfl ?_
  intro p e s m args below meth c s₁ B hml hv
  obtain ⟨rfl, hP, hK⟩ := hv
  have hx := B.exec
  have hb := B.bytes
  have hr := B.returns
  have hts := atoms_spec (ws := wsDM_output) B.pre
  have hown : s.vm.findClass RDM = some m.cls := findClass_of_methodNamed B.named
  have hlocks := B.notSynchronized
  have w0 := hts (.fieldLink RDM 26 "DrumMachine" "punch" "LDrumMachine$Punch;") (List.mem_cons_of_mem _ wm1_181)
  have i0 : ∀ w ∈ u_ws RDM TDM 5, w ∈ wsDM_output := fun w h => List.mem_cons_of_mem _ (inADM w h)
  have hl := lv_entry ([.ref (q 0), .int (a)]) (n := 2) (Nat.le_of_ble_eq_true rfl)
  rw [lg_entry_eq]
  generalize (lg_sl ([.ref (q 0), .int (a)]) ++ List.replicate (2 - (lg_sl ([.ref (q 0), .int (a)])).length) Slot.unset).toArray = ls at hl ⊢
  have hl : lv_has ls 2 [(0, .ref (q 0)), (1, .int (a))] := hl
  have hR := fDM_output.eq_1 z0 a
  refine lv_aload_n hx hb dDM_output_0 rfl (lv_at hl 0 rfl) ?_
  refine cg0_punch hx hb hts i0 hown hK hP w0 dDM_output_1 ?_
  refine lv_iload_n hx hb dDM_output_4 rfl (lv_at hl 1 rfl) ?_
  refine cl_rd (W.runV (As := [.int (a)]) (rest := []) ⟨hx, hb, hml, hown, hts⟩ (kPu_hasWord l D q cI cJ cZ hq z0 a) (cwV 1 hts (gV wm4_164 wm4_165 wm4_166 wm1_5 wm4_167) rfl rfl rfl (by decide +kernel) ⟨Nat.le_of_ble_eq_true rfl, Nat.le_of_ble_eq_true rfl⟩) (c_preV3 hK hP) rfl rfl hl.1 rfl (lv_room (Nat.le_of_ble_eq_true rfl)) dDM_output_5 ⟨Nat.le_refl _, Nat.le_refl _⟩) ?_
  refine wz_ifne hx hb dDM_output_8 rfl (fun h8 => ?_) (fun h8 => ?_)
  · have hR := hR.trans (if_pos h8)
    refine lv_aload_n hx hb dDM_output_21 rfl (lv_at hl 0 rfl) ?_
    refine cg0_punch hx hb hts i0 hown hK hP w0 dDM_output_22 ?_
    refine lv_iload_n hx hb dDM_output_25 rfl (lv_at hl 1 rfl) ?_
    refine cl_rd (W.runV (As := [.int (a)]) (rest := []) ⟨hx, hb, hml, hown, hts⟩ (kPu_wordAt l D q cI cJ cZ hq z0 a (out_in hc g1)) (cwV 1 hts (gV wm4_169 wm4_170 wm4_171 wm1_5 wm4_172) rfl rfl rfl (by decide +kernel) ⟨Nat.le_of_ble_eq_true rfl, Nat.le_of_ble_eq_true rfl⟩) (c_preV3 hK hP) rfl rfl hl.1 rfl (lv_room (Nat.le_of_ble_eq_true rfl)) dDM_output_26 ⟨Nat.le_refl _, Nat.le_refl _⟩) ?_
    exact W.lret hx hb hr (fun t ht _ => ⟨by rw [hR]; first | done | rfl, ht⟩) (fun _ h => absurd h List.not_mem_nil) dDM_output_29
  · exact (h8 g1).elim
