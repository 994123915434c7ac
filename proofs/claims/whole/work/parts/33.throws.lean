
set_option maxHeartbeats 4000000 in
set_option maxRecDepth 100000 in
theorem kDM_word_t7 (l : Launch) (D : va_G) (q : Nat → Nat) (cI cJ cZ : ClassId) (hq : c_inj q) (hfl : l.flags = pinnedFlags ++ [noTraceFlag]) (z0 : SC) (a : Int32) (v : Int64) (b : Bool) (g1 : ¬ fDr_hasAddress a = true) : MetR l yDM_word wsDM_word { frames := 6, cells := 1, slots := 6, locals := 82 } (va_Pc [.ref (q 0), .int (a), .long (v), .int (bb (b))] (c_Ct D q cI cJ cZ z0)) "java/lang/IndexOutOfBoundsException" (c_W D q cI cJ cZ z0) (c_qs q) := by
  refine MetR.ofW (cc := ccDM_word) (maxL := 5) (ret := none) (by decide +kernel) rfl ?_
  intro p e s m args below meth c s₁ B hml hnh hv
  obtain ⟨rfl, ⟨hP, hK⟩, hz⟩ := hv
  have hP0 := hP
  have hx := B.exec
  have hb := B.bytes
  have hr := B.returns
  have hts := atoms_spec (ws := wsDM_word) B.pre
  have hown : s.vm.findClass RDM = some m.cls := findClass_of_methodNamed B.named
  have hlocks := B.notSynchronized
  have hl := lv_entry ([.ref (q 0), .int (a), .long (v), .int (bb (b))]) (n := 5) (Nat.le_of_ble_eq_true rfl)
  rw [lg_entry_eq]
  generalize (lg_sl ([.ref (q 0), .int (a), .long (v), .int (bb (b))]) ++ List.replicate (5 - (lg_sl ([.ref (q 0), .int (a), .long (v), .int (bb (b))])).length) Slot.unset).toArray = ls at hl ⊢
  have hl : lv_has ls 5 [(0, .ref (q 0)), (1, .int (a)), (2, .long (v)), (4, .int (bb (b)))] := hl
  refine lv_iload_n hx hb dDM_word_0 rfl (lv_at hl 1 rfl) ?_
  refine cl_rd (W.runS (As := [.int (a)]) (rest := []) ⟨hx, hb, hml, hown, hts⟩ (kDr_hasAddress l a) (va_cwS 1 hts (gS wm2_8 wm2_9 wm1_2 wm2_10) rfl rfl rfl (by decide +kernel) ⟨Nat.le_of_ble_eq_true rfl, Nat.le_of_ble_eq_true rfl⟩) (preT) rfl rfl hl.1 rfl (lv_room (Nat.le_of_ble_eq_true rfl)) dDM_word_1 ⟨Nat.zero_le _, Nat.zero_le _⟩) ?_
  refine wz_ifne hx hb dDM_word_4 rfl (fun h4 => ?_) (fun h4 => ?_)
  · exact (g1 h4).elim
  · exact tw_thr (names := exN) hfl va_S.rf (c_ns hP0) (c_up hP) ⟨hx, hb, hl.1.trans hml.symm, hnh, hown, hlocks⟩ (by decide +kernel) exN_fit (Ts := wsA) (fun w h => hts w (List.mem_cons_of_mem _ h)) (fun w h => good_of_word (List.mem_filter.mp h).2) hz own_54 wm2_11 wm1_13 (fun U hW => stZ_mv hW hz.2.1 (52, "no such address") (by decide)) dDM_word_7 dDM_word_10 dDM_word_11 dDM_word_13 dDM_word_16 (Nat.le_of_ble_eq_true rfl) (Nat.le_of_ble_eq_true rfl) (Nat.le_of_ble_eq_true rfl) (Nat.le_of_ble_eq_true rfl)

set_option maxHeartbeats 4000000 in
set_option maxRecDepth 100000 in
theorem kDM_word_t24 (l : Launch) (D : va_G) (q : Nat → Nat) (cI cJ cZ : ClassId) (hq : c_inj q) (hfl : l.flags = pinnedFlags ++ [noTraceFlag]) (z0 : SC) (a : Int32) (v : Int64) (b : Bool) (g1 : fDr_hasAddress a = true) (g2 : ¬ fDg_fitWord v = true) : MetR l yDM_word wsDM_word { frames := 6, cells := 1, slots := 6, locals := 82 } (va_Pc [.ref (q 0), .int (a), .long (v), .int (bb (b))] (c_Ct D q cI cJ cZ z0)) "java/lang/IllegalArgumentException" (c_W D q cI cJ cZ z0) (c_qs q) := by
  refine MetR.ofW (cc := ccDM_word) (maxL := 5) (ret := none) (by decide +kernel) rfl ?_
  intro p e s m args below meth c s₁ B hml hnh hv
  obtain ⟨rfl, ⟨hP, hK⟩, hz⟩ := hv
  have hP0 := hP
  have hx := B.exec
  have hb := B.bytes
  have hr := B.returns
  have hts := atoms_spec (ws := wsDM_word) B.pre
  have hown : s.vm.findClass RDM = some m.cls := findClass_of_methodNamed B.named
  have hlocks := B.notSynchronized
  have hl := lv_entry ([.ref (q 0), .int (a), .long (v), .int (bb (b))]) (n := 5) (Nat.le_of_ble_eq_true rfl)
  rw [lg_entry_eq]
  generalize (lg_sl ([.ref (q 0), .int (a), .long (v), .int (bb (b))]) ++ List.replicate (5 - (lg_sl ([.ref (q 0), .int (a), .long (v), .int (bb (b))])).length) Slot.unset).toArray = ls at hl ⊢
  have hl : lv_has ls 5 [(0, .ref (q 0)), (1, .int (a)), (2, .long (v)), (4, .int (bb (b)))] := hl
  refine lv_iload_n hx hb dDM_word_0 rfl (lv_at hl 1 rfl) ?_
  refine cl_rd (W.runS (As := [.int (a)]) (rest := []) ⟨hx, hb, hml, hown, hts⟩ (kDr_hasAddress l a) (va_cwS 1 hts (gS wm2_8 wm2_9 wm1_2 wm2_10) rfl rfl rfl (by decide +kernel) ⟨Nat.le_of_ble_eq_true rfl, Nat.le_of_ble_eq_true rfl⟩) (preT) rfl rfl hl.1 rfl (lv_room (Nat.le_of_ble_eq_true rfl)) dDM_word_1 ⟨Nat.zero_le _, Nat.zero_le _⟩) ?_
  refine wz_ifne hx hb dDM_word_4 rfl (fun h4 => ?_) (fun h4 => ?_)
  · refine lv_lload_n hx hb dDM_word_17 rfl (lv_at hl 2 rfl) ?_
    refine cl_rd (W.runS (As := [.long (v)]) (rest := []) ⟨hx, hb, hml, hown, hts⟩ (kDg_fitWord l v) (va_cwS 1 hts (gS wm2_80 wm2_81 wm1_14 wm2_82) rfl rfl rfl (by decide +kernel) ⟨Nat.le_of_ble_eq_true rfl, Nat.le_of_ble_eq_true rfl⟩) (preT) rfl rfl hl.1 rfl (lv_room (Nat.le_of_ble_eq_true rfl)) dDM_word_18 ⟨Nat.zero_le _, Nat.zero_le _⟩) ?_
    refine wz_ifne hx hb dDM_word_21 rfl (fun h21 => ?_) (fun h21 => ?_)
    · exact (g2 h21).elim
    · exact tw_thr (names := exN) hfl va_S.rf (c_ns hP0) (c_up hP) ⟨hx, hb, hl.1.trans hml.symm, hnh, hown, hlocks⟩ (by decide +kernel) exN_fit (Ts := wsA) (fun w h => hts w (List.mem_cons_of_mem _ h)) (fun w h => good_of_word (List.mem_filter.mp h).2) hz own_67 wm2_84 wm1_15 (fun U hW => stZ_mv hW hz.2.1 (65, "a word has ten digits") (by decide)) dDM_word_24 dDM_word_27 dDM_word_28 dDM_word_30 dDM_word_33 (Nat.le_of_ble_eq_true rfl) (Nat.le_of_ble_eq_true rfl) (Nat.le_of_ble_eq_true rfl) (Nat.le_of_ble_eq_true rfl)
  · exact (h4 g1).elim

set_option maxHeartbeats 4000000 in
set_option maxRecDepth 100000 in
theorem kDM_flip_t9 (l : Launch) (D : va_G) (q : Nat → Nat) (cI cJ cZ : ClassId) (hq : c_inj q) (hfl : l.flags = pinnedFlags ++ [noTraceFlag]) (z0 : SC) (a : Int32) (d : Int32) (b : Int32) (g1 : ¬ fDr_hasBit a d b = true) : MetR l yDM_flip wsDM_flip { frames := 6, cells := 1, slots := 6, locals := 82 } (va_Pc [.ref (q 0), .int (a), .int (d), .int (b)] (c_Ct D q cI cJ cZ z0)) "java/lang/IndexOutOfBoundsException" (c_W D q cI cJ cZ z0) (c_qs q) := by
  refine MetR.ofW (cc := ccDM_flip) (maxL := 4) (ret := (some .boolean)) (by decide +kernel) rfl ?_
  intro p e s m args below meth c s₁ B hml hnh hv
  obtain ⟨rfl, ⟨hP, hK⟩, hz⟩ := hv
  have hP0 := hP
  have hx := B.exec
  have hb := B.bytes
  have hr := B.returns
  have hts := atoms_spec (ws := wsDM_flip) B.pre
  have hown : s.vm.findClass RDM = some m.cls := findClass_of_methodNamed B.named
  have hlocks := B.notSynchronized
  have hl := lv_entry ([.ref (q 0), .int (a), .int (d), .int (b)]) (n := 4) (Nat.le_of_ble_eq_true rfl)
  rw [lg_entry_eq]
  generalize (lg_sl ([.ref (q 0), .int (a), .int (d), .int (b)]) ++ List.replicate (4 - (lg_sl ([.ref (q 0), .int (a), .int (d), .int (b)])).length) Slot.unset).toArray = ls at hl ⊢
  have hl : lv_has ls 4 [(0, .ref (q 0)), (1, .int (a)), (2, .int (d)), (3, .int (b))] := hl
  refine lv_iload_n hx hb dDM_flip_0 rfl (lv_at hl 1 rfl) ?_
  refine lv_iload_n hx hb dDM_flip_1 rfl (lv_at hl 2 rfl) ?_
  refine lv_iload_n hx hb dDM_flip_2 rfl (lv_at hl 3 rfl) ?_
  refine cl_rd (W.runS (As := [.int (a), .int (d), .int (b)]) (rest := []) ⟨hx, hb, hml, hown, hts⟩ (kDr_hasBit l a d b) (va_cwS 3 hts (gS wm2_112 wm2_113 wm1_2 wm2_114) rfl rfl rfl (by decide +kernel) ⟨Nat.le_of_ble_eq_true rfl, Nat.le_of_ble_eq_true rfl⟩) (preT) rfl rfl hl.1 rfl (lv_room (Nat.le_of_ble_eq_true rfl)) dDM_flip_3 ⟨Nat.zero_le _, Nat.zero_le _⟩) ?_
  refine wz_ifne hx hb dDM_flip_6 rfl (fun h6 => ?_) (fun h6 => ?_)
  · exact (g1 h6).elim
  · exact tw_thr (names := exN) hfl va_S.rf (c_ns hP0) (c_up hP) ⟨hx, hb, hl.1.trans hml.symm, hnh, hown, hlocks⟩ (by decide +kernel) exN_fit (Ts := wsA) (fun w h => hts w (List.mem_cons_of_mem _ h)) (fun w h => good_of_word (List.mem_filter.mp h).2) hz own_54 wm2_11 wm1_13 (fun U hW => stZ_mv hW hz.2.1 (76, "no such bit") (by decide)) dDM_flip_9 dDM_flip_12 dDM_flip_13 dDM_flip_15 dDM_flip_18 (Nat.le_of_ble_eq_true rfl) (Nat.le_of_ble_eq_true rfl) (Nat.le_of_ble_eq_true rfl) (Nat.le_of_ble_eq_true rfl)

set_option maxHeartbeats 4000000 in
set_option maxRecDepth 100000 in
theorem kDM_card_t7 (l : Launch) (D : va_G) (q : Nat → Nat) (cI cJ cZ : ClassId) (hq : c_inj q) (hfl : l.flags = pinnedFlags ++ [noTraceFlag]) (z0 : SC) (v : Int64) (b : Bool) (g1 : ¬ fDg_fitWord v = true) : MetR l yDM_card wsDM_card { frames := 6, cells := 1, slots := 6, locals := 82 } (va_Pc [.ref (q 0), .long (v), .int (bb (b))] (c_Ct D q cI cJ cZ z0)) "java/lang/IllegalArgumentException" (c_W D q cI cJ cZ z0) (c_qs q) := by
  refine MetR.ofW (cc := ccDM_card) (maxL := 4) (ret := (some .int)) (by decide +kernel) rfl ?_
  intro p e s m args below meth c s₁ B hml hnh hv
  obtain ⟨rfl, ⟨hP, hK⟩, hz⟩ := hv
  have hP0 := hP
  have hx := B.exec
  have hb := B.bytes
  have hr := B.returns
  have hts := atoms_spec (ws := wsDM_card) B.pre
  have hown : s.vm.findClass RDM = some m.cls := findClass_of_methodNamed B.named
  have hlocks := B.notSynchronized
  have hl := lv_entry ([.ref (q 0), .long (v), .int (bb (b))]) (n := 4) (Nat.le_of_ble_eq_true rfl)
  rw [lg_entry_eq]
  generalize (lg_sl ([.ref (q 0), .long (v), .int (bb (b))]) ++ List.replicate (4 - (lg_sl ([.ref (q 0), .long (v), .int (bb (b))])).length) Slot.unset).toArray = ls at hl ⊢
  have hl : lv_has ls 4 [(0, .ref (q 0)), (1, .long (v)), (3, .int (bb (b)))] := hl
  refine lv_lload_n hx hb dDM_card_0 rfl (lv_at hl 1 rfl) ?_
  refine cl_rd (W.runS (As := [.long (v)]) (rest := []) ⟨hx, hb, hml, hown, hts⟩ (kDg_fitWord l v) (va_cwS 1 hts (gS wm2_80 wm2_81 wm1_14 wm2_82) rfl rfl rfl (by decide +kernel) ⟨Nat.le_of_ble_eq_true rfl, Nat.le_of_ble_eq_true rfl⟩) (preT) rfl rfl hl.1 rfl (lv_room (Nat.le_of_ble_eq_true rfl)) dDM_card_1 ⟨Nat.zero_le _, Nat.zero_le _⟩) ?_
  refine wz_ifne hx hb dDM_card_4 rfl (fun h4 => ?_) (fun h4 => ?_)
  · exact (g1 h4).elim
  · exact tw_thr (names := exN) hfl va_S.rf (c_ns hP0) (c_up hP) ⟨hx, hb, hl.1.trans hml.symm, hnh, hown, hlocks⟩ (by decide +kernel) exN_fit (Ts := wsA) (fun w h => hts w (List.mem_cons_of_mem _ h)) (fun w h => good_of_word (List.mem_filter.mp h).2) hz own_67 wm2_84 wm1_15 (fun U hW => stZ_mv hW hz.2.1 (85, "a card has ten digits") (by decide)) dDM_card_7 dDM_card_10 dDM_card_11 dDM_card_13 dDM_card_16 (Nat.le_of_ble_eq_true rfl) (Nat.le_of_ble_eq_true rfl) (Nat.le_of_ble_eq_true rfl) (Nat.le_of_ble_eq_true rfl)

set_option maxHeartbeats 4000000 in
set_option maxRecDepth 100000 in
theorem kDM_card_t27 (l : Launch) (D : va_G) (q : Nat → Nat) (cI cJ cZ : ClassId) (hq : c_inj q) (hfl : l.flags = pinnedFlags ++ [noTraceFlag]) (z0 : SC) (v : Int64) (b : Bool) (g1 : fDg_fitWord v = true) (g2 : fCd_isFull z0 = true) : MetR l yDM_card wsDM_card { frames := 6, cells := 1, slots := 6, locals := 82 } (va_Pc [.ref (q 0), .long (v), .int (bb (b))] (c_Ct D q cI cJ cZ z0)) "java/lang/IllegalStateException" (c_W D q cI cJ cZ z0) (c_qs q) := by
  refine MetR.ofW (cc := ccDM_card) (maxL := 4) (ret := (some .int)) (by decide +kernel) rfl ?_
  intro p e s m args below meth c s₁ B hml hnh hv
  obtain ⟨rfl, ⟨hP, hK⟩, hz⟩ := hv
  have hP0 := hP
  have hx := B.exec
  have hb := B.bytes
  have hr := B.returns
  have hts := atoms_spec (ws := wsDM_card) B.pre
  have hown : s.vm.findClass RDM = some m.cls := findClass_of_methodNamed B.named
  have hlocks := B.notSynchronized
  have w0 := hts (.fieldLink RDM 19 "DrumMachine" "cards" "LDrumMachine$CardDeck;") (List.mem_cons_of_mem _ wm1_180)
  have i0 : ∀ w ∈ u_ws RDM TDM 5, w ∈ wsDM_card := fun w h => List.mem_cons_of_mem _ (inADM w h)
  have hl := lv_entry ([.ref (q 0), .long (v), .int (bb (b))]) (n := 4) (Nat.le_of_ble_eq_true rfl)
  rw [lg_entry_eq]
  generalize (lg_sl ([.ref (q 0), .long (v), .int (bb (b))]) ++ List.replicate (4 - (lg_sl ([.ref (q 0), .long (v), .int (bb (b))])).length) Slot.unset).toArray = ls at hl ⊢
  have hl : lv_has ls 4 [(0, .ref (q 0)), (1, .long (v)), (3, .int (bb (b)))] := hl
  refine lv_lload_n hx hb dDM_card_0 rfl (lv_at hl 1 rfl) ?_
  refine cl_rd (W.runS (As := [.long (v)]) (rest := []) ⟨hx, hb, hml, hown, hts⟩ (kDg_fitWord l v) (va_cwS 1 hts (gS wm2_80 wm2_81 wm1_14 wm2_82) rfl rfl rfl (by decide +kernel) ⟨Nat.le_of_ble_eq_true rfl, Nat.le_of_ble_eq_true rfl⟩) (preT) rfl rfl hl.1 rfl (lv_room (Nat.le_of_ble_eq_true rfl)) dDM_card_1 ⟨Nat.zero_le _, Nat.zero_le _⟩) ?_
  refine wz_ifne hx hb dDM_card_4 rfl (fun h4 => ?_) (fun h4 => ?_)
  · refine lv_aload_n hx hb dDM_card_17 rfl (lv_at hl 0 rfl) ?_
    refine cg0_cards hx hb hts i0 hown hK hP w0 dDM_card_18 ?_
    refine cl_rd (W.runV (As := []) (rest := []) ⟨hx, hb, hml, hown, hts⟩ (kCd_isFull l D q cI cJ cZ hq z0) (cwV 0 hts (gV wm2_142 wm2_143 wm2_144 wm1_4 wm2_145) rfl rfl rfl (by decide +kernel) ⟨Nat.le_of_ble_eq_true rfl, Nat.le_of_ble_eq_true rfl⟩) (c_preV2 hK hP) rfl rfl hl.1 rfl (lv_room (Nat.le_of_ble_eq_true rfl)) dDM_card_21 ⟨Nat.zero_le _, Nat.zero_le _⟩) ?_
    refine wz_ifeq hx hb dDM_card_24 rfl (fun h24 => ?_) (fun h24 => ?_)
    · exact (h24 g2).elim
    · exact tw_thr (names := exN) hfl va_S.rf (c_ns hP0) (c_up hP) ⟨hx, hb, hl.1.trans hml.symm, hnh, hown, hlocks⟩ (by decide +kernel) exN_fit (Ts := wsA) (fun w h => hts w (List.mem_cons_of_mem _ h)) (fun w h => good_of_word (List.mem_filter.mp h).2) hz own_95 wm2_146 wm1_16 (fun U hW => stZ_mv hW hz.2.1 (93, "too many cards are still to be read") (by decide)) dDM_card_27 dDM_card_30 dDM_card_31 dDM_card_33 dDM_card_36 (Nat.le_of_ble_eq_true rfl) (Nat.le_of_ble_eq_true rfl) (Nat.le_of_ble_eq_true rfl) (Nat.le_of_ble_eq_true rfl)
  · exact (h4 g1).elim

set_option maxHeartbeats 4000000 in
set_option maxRecDepth 100000 in
theorem kDM_line_t7 (l : Launch) (D : va_G) (q : Nat → Nat) (cI cJ cZ : ClassId) (hq : c_inj q) (hfl : l.flags = pinnedFlags ++ [noTraceFlag]) (z0 : SC) (a : Int32) (o : Int32) (d : Int32) (x : Int32) (g1 : ¬ fOp_exists o = true) : MetR l yDM_line wsDM_line { frames := 6, cells := 1, slots := 6, locals := 82 } (va_Pc [.ref (q 0), .int (a), .int (o), .int (d), .int (x)] (c_Ct D q cI cJ cZ z0)) "java/lang/IllegalArgumentException" (c_W D q cI cJ cZ z0) (c_qs q) := by
  refine MetR.ofW (cc := ccDM_line) (maxL := 5) (ret := (some .int)) (by decide +kernel) rfl ?_
  intro p e s m args below meth c s₁ B hml hnh hv
  obtain ⟨rfl, ⟨hP, hK⟩, hz⟩ := hv
  have hP0 := hP
  have hx := B.exec
  have hb := B.bytes
  have hr := B.returns
  have hts := atoms_spec (ws := wsDM_line) B.pre
  have hown : s.vm.findClass RDM = some m.cls := findClass_of_methodNamed B.named
  have hlocks := B.notSynchronized
  have hl := lv_entry ([.ref (q 0), .int (a), .int (o), .int (d), .int (x)]) (n := 5) (Nat.le_of_ble_eq_true rfl)
  rw [lg_entry_eq]
  generalize (lg_sl ([.ref (q 0), .int (a), .int (o), .int (d), .int (x)]) ++ List.replicate (5 - (lg_sl ([.ref (q 0), .int (a), .int (o), .int (d), .int (x)])).length) Slot.unset).toArray = ls at hl ⊢
  have hl : lv_has ls 5 [(0, .ref (q 0)), (1, .int (a)), (2, .int (o)), (3, .int (d)), (4, .int (x))] := hl
  refine lv_iload_n hx hb dDM_line_0 rfl (lv_at hl 2 rfl) ?_
  refine cl_rd (W.runS (As := [.int (o)]) (rest := []) ⟨hx, hb, hml, hown, hts⟩ (kOp_exists l o) (va_cwS 1 hts (gS wm2_177 wm2_178 wm1_17 wm2_179) rfl rfl rfl (by decide +kernel) ⟨Nat.le_of_ble_eq_true rfl, Nat.le_of_ble_eq_true rfl⟩) (preT) rfl rfl hl.1 rfl (lv_room (Nat.le_of_ble_eq_true rfl)) dDM_line_1 ⟨Nat.zero_le _, Nat.zero_le _⟩) ?_
  refine wz_ifne hx hb dDM_line_4 rfl (fun h4 => ?_) (fun h4 => ?_)
  · exact (g1 h4).elim
  · exact tw_thr (names := exN) hfl va_S.rf (c_ns hP0) (c_up hP) ⟨hx, hb, hl.1.trans hml.symm, hnh, hown, hlocks⟩ (by decide +kernel) exN_fit (Ts := wsA) (fun w h => hts w (List.mem_cons_of_mem _ h)) (fun w h => good_of_word (List.mem_filter.mp h).2) hz own_67 wm2_84 wm1_15 (fun U hW => stZ_mv hW hz.2.1 (109, "no such operation") (by decide)) dDM_line_7 dDM_line_10 dDM_line_11 dDM_line_13 dDM_line_16 (Nat.le_of_ble_eq_true rfl) (Nat.le_of_ble_eq_true rfl) (Nat.le_of_ble_eq_true rfl) (Nat.le_of_ble_eq_true rfl)

set_option maxHeartbeats 4000000 in
set_option maxRecDepth 100000 in
theorem kDM_line_t40 (l : Launch) (D : va_G) (q : Nat → Nat) (cI cJ cZ : ClassId) (hq : c_inj q) (hfl : l.flags = pinnedFlags ++ [noTraceFlag]) (z0 : SC) (a : Int32) (o : Int32) (d : Int32) (x : Int32) (g1 : fOp_exists o = true) (g2 : ¬ (fAs_isPart a = true ∧ fAs_isDataPart o d = true ∧ fAs_isPart x = true)) : MetR l yDM_line wsDM_line { frames := 6, cells := 1, slots := 6, locals := 82 } (va_Pc [.ref (q 0), .int (a), .int (o), .int (d), .int (x)] (c_Ct D q cI cJ cZ z0)) "java/lang/IllegalArgumentException" (c_W D q cI cJ cZ z0) (c_qs q) := by
  refine MetR.ofW (cc := ccDM_line) (maxL := 5) (ret := (some .int)) (by decide +kernel) rfl ?_
  intro p e s m args below meth c s₁ B hml hnh hv
  obtain ⟨rfl, ⟨hP, hK⟩, hz⟩ := hv
  have hP0 := hP
  have hx := B.exec
  have hb := B.bytes
  have hr := B.returns
  have hts := atoms_spec (ws := wsDM_line) B.pre
  have hown : s.vm.findClass RDM = some m.cls := findClass_of_methodNamed B.named
  have hlocks := B.notSynchronized
  have hl := lv_entry ([.ref (q 0), .int (a), .int (o), .int (d), .int (x)]) (n := 5) (Nat.le_of_ble_eq_true rfl)
  rw [lg_entry_eq]
  generalize (lg_sl ([.ref (q 0), .int (a), .int (o), .int (d), .int (x)]) ++ List.replicate (5 - (lg_sl ([.ref (q 0), .int (a), .int (o), .int (d), .int (x)])).length) Slot.unset).toArray = ls at hl ⊢
  have hl : lv_has ls 5 [(0, .ref (q 0)), (1, .int (a)), (2, .int (o)), (3, .int (d)), (4, .int (x))] := hl
  refine lv_iload_n hx hb dDM_line_0 rfl (lv_at hl 2 rfl) ?_
  refine cl_rd (W.runS (As := [.int (o)]) (rest := []) ⟨hx, hb, hml, hown, hts⟩ (kOp_exists l o) (va_cwS 1 hts (gS wm2_177 wm2_178 wm1_17 wm2_179) rfl rfl rfl (by decide +kernel) ⟨Nat.le_of_ble_eq_true rfl, Nat.le_of_ble_eq_true rfl⟩) (preT) rfl rfl hl.1 rfl (lv_room (Nat.le_of_ble_eq_true rfl)) dDM_line_1 ⟨Nat.zero_le _, Nat.zero_le _⟩) ?_
  refine wz_ifne hx hb dDM_line_4 rfl (fun h4 => ?_) (fun h4 => ?_)
  · refine lv_iload_n hx hb dDM_line_17 rfl (lv_at hl 1 rfl) ?_
    refine cl_rd (W.runS (As := [.int (a)]) (rest := []) ⟨hx, hb, hml, hown, hts⟩ (kAs_isPart l a) (va_cwS 1 hts (gS wm2_187 wm2_188 wm1_8 wm2_189) rfl rfl rfl (by decide +kernel) ⟨Nat.le_of_ble_eq_true rfl, Nat.le_of_ble_eq_true rfl⟩) (preT) rfl rfl hl.1 rfl (lv_room (Nat.le_of_ble_eq_true rfl)) dDM_line_18 ⟨Nat.zero_le _, Nat.zero_le _⟩) ?_
    refine wz_ifeq hx hb dDM_line_21 rfl (fun h21 => ?_) (fun h21 => ?_)
    · exact tw_thr (names := exN) hfl va_S.rf (c_ns hP0) (c_up hP) ⟨hx, hb, hl.1.trans hml.symm, hnh, hown, hlocks⟩ (by decide +kernel) exN_fit (Ts := wsA) (fun w h => hts w (List.mem_cons_of_mem _ h)) (fun w h => good_of_word (List.mem_filter.mp h).2) hz own_67 wm2_84 wm1_15 (fun U hW => stZ_mv hW hz.2.1 (118, "no such part") (by decide)) dDM_line_40 dDM_line_43 dDM_line_44 dDM_line_46 dDM_line_49 (Nat.le_of_ble_eq_true rfl) (Nat.le_of_ble_eq_true rfl) (Nat.le_of_ble_eq_true rfl) (Nat.le_of_ble_eq_true rfl)
    · refine lv_iload_n hx hb dDM_line_24 rfl (lv_at hl 2 rfl) ?_
      refine lv_iload_n hx hb dDM_line_25 rfl (lv_at hl 3 rfl) ?_
      refine cl_rd (W.runS (As := [.int (o), .int (d)]) (rest := []) ⟨hx, hb, hml, hown, hts⟩ (kAs_isDataPart l o d) (va_cwS 2 hts (gS wm2_194 wm2_195 wm1_8 wm2_196) rfl rfl rfl (by decide +kernel) ⟨Nat.le_of_ble_eq_true rfl, Nat.le_of_ble_eq_true rfl⟩) (preT) rfl rfl hl.1 rfl (lv_room (Nat.le_of_ble_eq_true rfl)) dDM_line_26 ⟨Nat.zero_le _, Nat.zero_le _⟩) ?_
      refine wz_ifeq hx hb dDM_line_29 rfl (fun h29 => ?_) (fun h29 => ?_)
      · exact tw_thr (names := exN) hfl va_S.rf (c_ns hP0) (c_up hP) ⟨hx, hb, hl.1.trans hml.symm, hnh, hown, hlocks⟩ (by decide +kernel) exN_fit (Ts := wsA) (fun w h => hts w (List.mem_cons_of_mem _ h)) (fun w h => good_of_word (List.mem_filter.mp h).2) hz own_67 wm2_84 wm1_15 (fun U hW => stZ_mv hW hz.2.1 (118, "no such part") (by decide)) dDM_line_40 dDM_line_43 dDM_line_44 dDM_line_46 dDM_line_49 (Nat.le_of_ble_eq_true rfl) (Nat.le_of_ble_eq_true rfl) (Nat.le_of_ble_eq_true rfl) (Nat.le_of_ble_eq_true rfl)
      · refine lv_iload hx hb dDM_line_32 (lv_at hl 4 rfl) ?_
        refine cl_rd (W.runS (As := [.int (x)]) (rest := []) ⟨hx, hb, hml, hown, hts⟩ (kAs_isPart l x) (va_cwS 1 hts (gS wm2_187 wm2_188 wm1_8 wm2_189) rfl rfl rfl (by decide +kernel) ⟨Nat.le_of_ble_eq_true rfl, Nat.le_of_ble_eq_true rfl⟩) (preT) rfl rfl hl.1 rfl (lv_room (Nat.le_of_ble_eq_true rfl)) dDM_line_34 ⟨Nat.zero_le _, Nat.zero_le _⟩) ?_
        refine wz_ifne hx hb dDM_line_37 rfl (fun h37 => ?_) (fun h37 => ?_)
        · exact (g2 ⟨h21, h29, h37⟩).elim
        · exact tw_thr (names := exN) hfl va_S.rf (c_ns hP0) (c_up hP) ⟨hx, hb, hl.1.trans hml.symm, hnh, hown, hlocks⟩ (by decide +kernel) exN_fit (Ts := wsA) (fun w h => hts w (List.mem_cons_of_mem _ h)) (fun w h => good_of_word (List.mem_filter.mp h).2) hz own_67 wm2_84 wm1_15 (fun U hW => stZ_mv hW hz.2.1 (118, "no such part") (by decide)) dDM_line_40 dDM_line_43 dDM_line_44 dDM_line_46 dDM_line_49 (Nat.le_of_ble_eq_true rfl) (Nat.le_of_ble_eq_true rfl) (Nat.le_of_ble_eq_true rfl) (Nat.le_of_ble_eq_true rfl)
  · exact (h4 g1).elim

set_option maxHeartbeats 4000000 in
set_option maxRecDepth 100000 in
theorem kDM_line_t60 (l : Launch) (D : va_G) (q : Nat → Nat) (cI cJ cZ : ClassId) (hq : c_inj q) (hfl : l.flags = pinnedFlags ++ [noTraceFlag]) (z0 : SC) (a : Int32) (o : Int32) (d : Int32) (x : Int32) (g1 : fOp_exists o = true) (g2 : fAs_isPart a = true) (g3 : fAs_isDataPart o d = true) (g4 : fAs_isPart x = true) (g5 : fAs_isFull z0 = true) : MetR l yDM_line wsDM_line { frames := 6, cells := 1, slots := 6, locals := 82 } (va_Pc [.ref (q 0), .int (a), .int (o), .int (d), .int (x)] (c_Ct D q cI cJ cZ z0)) "java/lang/IllegalStateException" (c_W D q cI cJ cZ z0) (c_qs q) := by
  refine MetR.ofW (cc := ccDM_line) (maxL := 5) (ret := (some .int)) (by decide +kernel) rfl ?_
  intro p e s m args below meth c s₁ B hml hnh hv
  obtain ⟨rfl, ⟨hP, hK⟩, hz⟩ := hv
  have hP0 := hP
  have hx := B.exec
  have hb := B.bytes
  have hr := B.returns
  have hts := atoms_spec (ws := wsDM_line) B.pre
  have hown : s.vm.findClass RDM = some m.cls := findClass_of_methodNamed B.named
  have hlocks := B.notSynchronized
  have w0 := hts (.fieldLink RDM 42 "DrumMachine" "assembler" "LDrumMachine$Assembler;") (List.mem_cons_of_mem _ wm1_183)
  have i0 : ∀ w ∈ u_ws RDM TDM 5, w ∈ wsDM_line := fun w h => List.mem_cons_of_mem _ (inADM w h)
  have hl := lv_entry ([.ref (q 0), .int (a), .int (o), .int (d), .int (x)]) (n := 5) (Nat.le_of_ble_eq_true rfl)
  rw [lg_entry_eq]
  generalize (lg_sl ([.ref (q 0), .int (a), .int (o), .int (d), .int (x)]) ++ List.replicate (5 - (lg_sl ([.ref (q 0), .int (a), .int (o), .int (d), .int (x)])).length) Slot.unset).toArray = ls at hl ⊢
  have hl : lv_has ls 5 [(0, .ref (q 0)), (1, .int (a)), (2, .int (o)), (3, .int (d)), (4, .int (x))] := hl
  refine lv_iload_n hx hb dDM_line_0 rfl (lv_at hl 2 rfl) ?_
  refine cl_rd (W.runS (As := [.int (o)]) (rest := []) ⟨hx, hb, hml, hown, hts⟩ (kOp_exists l o) (va_cwS 1 hts (gS wm2_177 wm2_178 wm1_17 wm2_179) rfl rfl rfl (by decide +kernel) ⟨Nat.le_of_ble_eq_true rfl, Nat.le_of_ble_eq_true rfl⟩) (preT) rfl rfl hl.1 rfl (lv_room (Nat.le_of_ble_eq_true rfl)) dDM_line_1 ⟨Nat.zero_le _, Nat.zero_le _⟩) ?_
  refine wz_ifne hx hb dDM_line_4 rfl (fun h4 => ?_) (fun h4 => ?_)
  · refine lv_iload_n hx hb dDM_line_17 rfl (lv_at hl 1 rfl) ?_
    refine cl_rd (W.runS (As := [.int (a)]) (rest := []) ⟨hx, hb, hml, hown, hts⟩ (kAs_isPart l a) (va_cwS 1 hts (gS wm2_187 wm2_188 wm1_8 wm2_189) rfl rfl rfl (by decide +kernel) ⟨Nat.le_of_ble_eq_true rfl, Nat.le_of_ble_eq_true rfl⟩) (preT) rfl rfl hl.1 rfl (lv_room (Nat.le_of_ble_eq_true rfl)) dDM_line_18 ⟨Nat.zero_le _, Nat.zero_le _⟩) ?_
    refine wz_ifeq hx hb dDM_line_21 rfl (fun h21 => ?_) (fun h21 => ?_)
    · exact (h21 g2).elim
    · refine lv_iload_n hx hb dDM_line_24 rfl (lv_at hl 2 rfl) ?_
      refine lv_iload_n hx hb dDM_line_25 rfl (lv_at hl 3 rfl) ?_
      refine cl_rd (W.runS (As := [.int (o), .int (d)]) (rest := []) ⟨hx, hb, hml, hown, hts⟩ (kAs_isDataPart l o d) (va_cwS 2 hts (gS wm2_194 wm2_195 wm1_8 wm2_196) rfl rfl rfl (by decide +kernel) ⟨Nat.le_of_ble_eq_true rfl, Nat.le_of_ble_eq_true rfl⟩) (preT) rfl rfl hl.1 rfl (lv_room (Nat.le_of_ble_eq_true rfl)) dDM_line_26 ⟨Nat.zero_le _, Nat.zero_le _⟩) ?_
      refine wz_ifeq hx hb dDM_line_29 rfl (fun h29 => ?_) (fun h29 => ?_)
      · exact (h29 g3).elim
      · refine lv_iload hx hb dDM_line_32 (lv_at hl 4 rfl) ?_
        refine cl_rd (W.runS (As := [.int (x)]) (rest := []) ⟨hx, hb, hml, hown, hts⟩ (kAs_isPart l x) (va_cwS 1 hts (gS wm2_187 wm2_188 wm1_8 wm2_189) rfl rfl rfl (by decide +kernel) ⟨Nat.le_of_ble_eq_true rfl, Nat.le_of_ble_eq_true rfl⟩) (preT) rfl rfl hl.1 rfl (lv_room (Nat.le_of_ble_eq_true rfl)) dDM_line_34 ⟨Nat.zero_le _, Nat.zero_le _⟩) ?_
        refine wz_ifne hx hb dDM_line_37 rfl (fun h37 => ?_) (fun h37 => ?_)
        · refine lv_aload_n hx hb dDM_line_50 rfl (lv_at hl 0 rfl) ?_
          refine cg0_assembler hx hb hts i0 hown hK hP w0 dDM_line_51 ?_
          refine cl_rd (W.runV (As := []) (rest := []) ⟨hx, hb, hml, hown, hts⟩ (kAs_isFull l D q cI cJ cZ hq z0) (cwV 0 hts (gV wm2_202 wm2_203 wm2_204 wm1_8 wm2_205) rfl rfl rfl (by decide +kernel) ⟨Nat.le_of_ble_eq_true rfl, Nat.le_of_ble_eq_true rfl⟩) (c_preV6 hK hP) rfl rfl hl.1 rfl (lv_room (Nat.le_of_ble_eq_true rfl)) dDM_line_54 ⟨Nat.zero_le _, Nat.zero_le _⟩) ?_
          refine wz_ifeq hx hb dDM_line_57 rfl (fun h57 => ?_) (fun h57 => ?_)
          · exact (h57 g5).elim
          · exact tw_thr (names := exN) hfl va_S.rf (c_ns hP0) (c_up hP) ⟨hx, hb, hl.1.trans hml.symm, hnh, hown, hlocks⟩ (by decide +kernel) exN_fit (Ts := wsA) (fun w h => hts w (List.mem_cons_of_mem _ h)) (fun w h => good_of_word (List.mem_filter.mp h).2) hz own_95 wm2_146 wm1_16 (fun U hW => stZ_mv hW hz.2.1 (121, "too many lines") (by decide)) dDM_line_60 dDM_line_63 dDM_line_64 dDM_line_66 dDM_line_69 (Nat.le_of_ble_eq_true rfl) (Nat.le_of_ble_eq_true rfl) (Nat.le_of_ble_eq_true rfl) (Nat.le_of_ble_eq_true rfl)
        · exact (h37 g4).elim
  · exact (h4 g1).elim

set_option maxHeartbeats 4000000 in
set_option maxRecDepth 100000 in
theorem kDM_reserve_t7 (l : Launch) (D : va_G) (q : Nat → Nat) (cI cJ cZ : ClassId) (hq : c_inj q) (hfl : l.flags = pinnedFlags ++ [noTraceFlag]) (z0 : SC) (a : Int32) (g1 : ¬ fDr_hasAddress a = true) : MetR l yDM_reserve wsDM_reserve { frames := 6, cells := 1, slots := 6, locals := 82 } (va_Pc [.ref (q 0), .int (a)] (c_Ct D q cI cJ cZ z0)) "java/lang/IndexOutOfBoundsException" (c_W D q cI cJ cZ z0) (c_qs q) := by
  refine MetR.ofW (cc := ccDM_reserve) (maxL := 2) (ret := none) (by decide +kernel) rfl ?_
  intro p e s m args below meth c s₁ B hml hnh hv
  obtain ⟨rfl, ⟨hP, hK⟩, hz⟩ := hv
  have hP0 := hP
  have hx := B.exec
  have hb := B.bytes
  have hr := B.returns
  have hts := atoms_spec (ws := wsDM_reserve) B.pre
  have hown : s.vm.findClass RDM = some m.cls := findClass_of_methodNamed B.named
  have hlocks := B.notSynchronized
  have hl := lv_entry ([.ref (q 0), .int (a)]) (n := 2) (Nat.le_of_ble_eq_true rfl)
  rw [lg_entry_eq]
  generalize (lg_sl ([.ref (q 0), .int (a)]) ++ List.replicate (2 - (lg_sl ([.ref (q 0), .int (a)])).length) Slot.unset).toArray = ls at hl ⊢
  have hl : lv_has ls 2 [(0, .ref (q 0)), (1, .int (a))] := hl
  refine lv_iload_n hx hb dDM_reserve_0 rfl (lv_at hl 1 rfl) ?_
  refine cl_rd (W.runS (As := [.int (a)]) (rest := []) ⟨hx, hb, hml, hown, hts⟩ (kDr_hasAddress l a) (va_cwS 1 hts (gS wm2_8 wm2_9 wm1_2 wm2_10) rfl rfl rfl (by decide +kernel) ⟨Nat.le_of_ble_eq_true rfl, Nat.le_of_ble_eq_true rfl⟩) (preT) rfl rfl hl.1 rfl (lv_room (Nat.le_of_ble_eq_true rfl)) dDM_reserve_1 ⟨Nat.zero_le _, Nat.zero_le _⟩) ?_
  refine wz_ifne hx hb dDM_reserve_4 rfl (fun h4 => ?_) (fun h4 => ?_)
  · exact (g1 h4).elim
  · exact tw_thr (names := exN) hfl va_S.rf (c_ns hP0) (c_up hP) ⟨hx, hb, hl.1.trans hml.symm, hnh, hown, hlocks⟩ (by decide +kernel) exN_fit (Ts := wsA) (fun w h => hts w (List.mem_cons_of_mem _ h)) (fun w h => good_of_word (List.mem_filter.mp h).2) hz own_54 wm2_11 wm1_13 (fun U hW => stZ_mv hW hz.2.1 (52, "no such address") (by decide)) dDM_reserve_7 dDM_reserve_10 dDM_reserve_11 dDM_reserve_13 dDM_reserve_16 (Nat.le_of_ble_eq_true rfl) (Nat.le_of_ble_eq_true rfl) (Nat.le_of_ble_eq_true rfl) (Nat.le_of_ble_eq_true rfl)

set_option maxHeartbeats 4000000 in
set_option maxRecDepth 100000 in
theorem kDM_assemble_t10 (l : Launch) (D : va_G) (q : Nat → Nat) (cI cJ cZ : ClassId) (hq : c_inj q) (hfl : l.flags = pinnedFlags ++ [noTraceFlag]) (z0 : SC) (b : Bool) (g1 : fAs_isEmpty z0 = true) : MetR l yDM_assemble wsDM_assemble { frames := 6, cells := 1, slots := 6, locals := 82 } (va_Pc [.ref (q 0), .int (bb (b))] (c_Ct D q cI cJ cZ z0)) "java/lang/IllegalStateException" (c_W D q cI cJ cZ z0) (c_qs q) := by
  refine MetR.ofW (cc := ccDM_assemble) (maxL := 2) (ret := (some .int)) (by decide +kernel) rfl ?_
  intro p e s m args below meth c s₁ B hml hnh hv
  obtain ⟨rfl, ⟨hP, hK⟩, hz⟩ := hv
  have hP0 := hP
  have hx := B.exec
  have hb := B.bytes
  have hr := B.returns
  have hts := atoms_spec (ws := wsDM_assemble) B.pre
  have hown : s.vm.findClass RDM = some m.cls := findClass_of_methodNamed B.named
  have hlocks := B.notSynchronized
  have w0 := hts (.fieldLink RDM 42 "DrumMachine" "assembler" "LDrumMachine$Assembler;") (List.mem_cons_of_mem _ wm1_183)
  have i0 : ∀ w ∈ u_ws RDM TDM 5, w ∈ wsDM_assemble := fun w h => List.mem_cons_of_mem _ (inADM w h)
  have hl := lv_entry ([.ref (q 0), .int (bb (b))]) (n := 2) (Nat.le_of_ble_eq_true rfl)
  rw [lg_entry_eq]
  generalize (lg_sl ([.ref (q 0), .int (bb (b))]) ++ List.replicate (2 - (lg_sl ([.ref (q 0), .int (bb (b))])).length) Slot.unset).toArray = ls at hl ⊢
  have hl : lv_has ls 2 [(0, .ref (q 0)), (1, .int (bb (b)))] := hl
  refine lv_aload_n hx hb dDM_assemble_0 rfl (lv_at hl 0 rfl) ?_
  refine cg0_assembler hx hb hts i0 hown hK hP w0 dDM_assemble_1 ?_
  refine cl_rd (W.runV (As := []) (rest := []) ⟨hx, hb, hml, hown, hts⟩ (kAs_isEmpty l D q cI cJ cZ hq z0) (cwV 0 hts (gV wm2_230 wm2_231 wm2_232 wm1_8 wm2_233) rfl rfl rfl (by decide +kernel) ⟨Nat.le_of_ble_eq_true rfl, Nat.le_of_ble_eq_true rfl⟩) (c_preV6 hK hP) rfl rfl hl.1 rfl (lv_room (Nat.le_of_ble_eq_true rfl)) dDM_assemble_4 ⟨Nat.zero_le _, Nat.zero_le _⟩) ?_
  refine wz_ifeq hx hb dDM_assemble_7 rfl (fun h7 => ?_) (fun h7 => ?_)
  · exact (h7 g1).elim
  · exact tw_thr (names := exN) hfl va_S.rf (c_ns hP0) (c_up hP) ⟨hx, hb, hl.1.trans hml.symm, hnh, hown, hlocks⟩ (by decide +kernel) exN_fit (Ts := wsA) (fun w h => hts w (List.mem_cons_of_mem _ h)) (fun w h => good_of_word (List.mem_filter.mp h).2) hz own_95 wm2_146 wm1_16 (fun U hW => stZ_mv hW hz.2.1 (137, "there are no lines") (by decide)) dDM_assemble_10 dDM_assemble_13 dDM_assemble_14 dDM_assemble_16 dDM_assemble_19 (Nat.le_of_ble_eq_true rfl) (Nat.le_of_ble_eq_true rfl) (Nat.le_of_ble_eq_true rfl) (Nat.le_of_ble_eq_true rfl)

set_option maxHeartbeats 4000000 in
set_option maxRecDepth 100000 in
theorem kDM_assemble_t31 (l : Launch) (D : va_G) (q : Nat → Nat) (cI cJ cZ : ClassId) (hq : c_inj q) (hfl : l.flags = pinnedFlags ++ [noTraceFlag]) (z0 : SC) (b : Bool) (g1 : ¬ fAs_isEmpty z0 = true) (hA : c_A z0) (g2 : ¬ (fAs_placeAll z0 b).1 = true) : MetR l yDM_assemble wsDM_assemble { frames := 7, cells := 1, slots := 6, locals := 155 } (va_Pc [.ref (q 0), .int (bb (b))] (c_Ct D q cI cJ cZ z0)) "java/lang/UnsupportedOperationException" (c_W D q cI cJ cZ ((fAs_placeAll z0 b).2)) (c_qs q) := by
  refine MetR.ofW (cc := ccDM_assemble) (maxL := 2) (ret := (some .int)) (by decide +kernel) rfl ?_
  intro p e s m args below meth c s₁ B hml hnh hv
  obtain ⟨rfl, ⟨hP, hK⟩, hz⟩ := hv
  have hP0 := hP
  have hx := B.exec
  have hb := B.bytes
  have hr := B.returns
  have hts := atoms_spec (ws := wsDM_assemble) B.pre
  have hown : s.vm.findClass RDM = some m.cls := findClass_of_methodNamed B.named
  have hlocks := B.notSynchronized
  have w0 := hts (.fieldLink RDM 42 "DrumMachine" "assembler" "LDrumMachine$Assembler;") (List.mem_cons_of_mem _ wm1_183)
  have i0 : ∀ w ∈ u_ws RDM TDM 5, w ∈ wsDM_assemble := fun w h => List.mem_cons_of_mem _ (inADM w h)
  have hS : va_S (c_qs q) s.heap s.heap [] := va_S.rf
  have hl := lv_entry ([.ref (q 0), .int (bb (b))]) (n := 2) (Nat.le_of_ble_eq_true rfl)
  rw [lg_entry_eq]
  generalize (lg_sl ([.ref (q 0), .int (bb (b))]) ++ List.replicate (2 - (lg_sl ([.ref (q 0), .int (bb (b))])).length) Slot.unset).toArray = ls at hl ⊢
  have hl : lv_has ls 2 [(0, .ref (q 0)), (1, .int (bb (b)))] := hl
  refine lv_aload_n hx hb dDM_assemble_0 rfl (lv_at hl 0 rfl) ?_
  refine cg0_assembler hx hb hts i0 hown hK hP w0 dDM_assemble_1 ?_
  refine cl_rd (W.runV (As := []) (rest := []) ⟨hx, hb, hml, hown, hts⟩ (kAs_isEmpty l D q cI cJ cZ hq z0) (cwV 0 hts (gV wm2_230 wm2_231 wm2_232 wm1_8 wm2_233) rfl rfl rfl (by decide +kernel) ⟨Nat.le_of_ble_eq_true rfl, Nat.le_of_ble_eq_true rfl⟩) (c_preV6 hK hP) rfl rfl hl.1 rfl (lv_room (Nat.le_of_ble_eq_true rfl)) dDM_assemble_4 ⟨Nat.zero_le _, Nat.zero_le _⟩) ?_
  refine wz_ifeq hx hb dDM_assemble_7 rfl (fun h7 => ?_) (fun h7 => ?_)
  · refine lv_aload_n hx hb dDM_assemble_20 rfl (lv_at hl 0 rfl) ?_
    refine cg0_assembler hx hb hts i0 hown hK hP w0 dDM_assemble_21 ?_
    refine lv_iload_n hx hb dDM_assemble_24 rfl (lv_at hl 1 rfl) ?_
    refine cl_wr (W.runV (As := [.int (bb (b))]) (rest := []) ⟨hx, hb, hml, hown, hts⟩ (kAs_placeAll l D q cI cJ cZ hq z0 b hA) (cwV 1 hts (gV wm2_235 wm2_236 wm2_237 wm1_8 wm2_238) rfl rfl rfl (by decide +kernel) ⟨Nat.le_of_ble_eq_true rfl, Nat.le_of_ble_eq_true rfl⟩) (c_preV6 hK hP) rfl rfl hl.1 rfl (lv_room (Nat.le_of_ble_eq_true rfl)) dDM_assemble_25 ⟨Nat.zero_le _, Nat.zero_le _⟩) hS (fun _ h => h) (fun _ h => h) (fun H locs hP hS => ?_)
    refine wz_ifne hx hb dDM_assemble_28 rfl (fun h28 => ?_) (fun h28 => ?_)
    · exact (g2 h28).elim
    · exact tw_thr (names := exN) hfl hS (c_ns hP0) (c_up hP) ⟨hx, hb, hl.1.trans hml.symm, hnh, hown, hlocks⟩ (by decide +kernel) exN_fit (Ts := wsA) (fun w h => hts w (List.mem_cons_of_mem _ h)) (fun w h => good_of_word (List.mem_filter.mp h).2) hz own_147 wm3_56 wm1_18 (fun U hW => stZ_mv hW hz.2.1 (145, "the lines can't be placed") (by decide)) dDM_assemble_31 dDM_assemble_34 dDM_assemble_35 dDM_assemble_37 dDM_assemble_40 (Nat.le_of_ble_eq_true rfl) (Nat.le_of_ble_eq_true rfl) (Nat.le_of_ble_eq_true rfl) (Nat.le_of_ble_eq_true rfl)
  · exact (g1 h7).elim

set_option maxHeartbeats 4000000 in
set_option maxRecDepth 100000 in
theorem kDM_place_t7 (l : Launch) (D : va_G) (q : Nat → Nat) (cI cJ cZ : ClassId) (hq : c_inj q) (hfl : l.flags = pinnedFlags ++ [noTraceFlag]) (z0 : SC) (a : Int32) (g1 : ¬ fAs_hasSymbol a = true) : MetR l yDM_place wsDM_place { frames := 6, cells := 1, slots := 6, locals := 82 } (va_Pc [.ref (q 0), .int (a)] (c_Ct D q cI cJ cZ z0)) "java/lang/IndexOutOfBoundsException" (c_W D q cI cJ cZ z0) (c_qs q) := by
  refine MetR.ofW (cc := ccDM_place) (maxL := 2) (ret := (some .int)) (by decide +kernel) rfl ?_
  intro p e s m args below meth c s₁ B hml hnh hv
  obtain ⟨rfl, ⟨hP, hK⟩, hz⟩ := hv
  have hP0 := hP
  have hx := B.exec
  have hb := B.bytes
  have hr := B.returns
  have hts := atoms_spec (ws := wsDM_place) B.pre
  have hown : s.vm.findClass RDM = some m.cls := findClass_of_methodNamed B.named
  have hlocks := B.notSynchronized
  have hl := lv_entry ([.ref (q 0), .int (a)]) (n := 2) (Nat.le_of_ble_eq_true rfl)
  rw [lg_entry_eq]
  generalize (lg_sl ([.ref (q 0), .int (a)]) ++ List.replicate (2 - (lg_sl ([.ref (q 0), .int (a)])).length) Slot.unset).toArray = ls at hl ⊢
  have hl : lv_has ls 2 [(0, .ref (q 0)), (1, .int (a))] := hl
  refine lv_iload_n hx hb dDM_place_0 rfl (lv_at hl 1 rfl) ?_
  refine cl_rd (W.runS (As := [.int (a)]) (rest := []) ⟨hx, hb, hml, hown, hts⟩ (kAs_hasSymbol l a) (va_cwS 1 hts (gS wm3_93 wm3_94 wm1_8 wm3_95) rfl rfl rfl (by decide +kernel) ⟨Nat.le_of_ble_eq_true rfl, Nat.le_of_ble_eq_true rfl⟩) (preT) rfl rfl hl.1 rfl (lv_room (Nat.le_of_ble_eq_true rfl)) dDM_place_1 ⟨Nat.zero_le _, Nat.zero_le _⟩) ?_
  refine wz_ifne hx hb dDM_place_4 rfl (fun h4 => ?_) (fun h4 => ?_)
  · exact (g1 h4).elim
  · exact tw_thr (names := exN) hfl va_S.rf (c_ns hP0) (c_up hP) ⟨hx, hb, hl.1.trans hml.symm, hnh, hown, hlocks⟩ (by decide +kernel) exN_fit (Ts := wsA) (fun w h => hts w (List.mem_cons_of_mem _ h)) (fun w h => good_of_word (List.mem_filter.mp h).2) hz own_54 wm2_11 wm1_13 (fun U hW => stZ_mv hW hz.2.1 (158, "no such symbol") (by decide)) dDM_place_7 dDM_place_10 dDM_place_11 dDM_place_13 dDM_place_16 (Nat.le_of_ble_eq_true rfl) (Nat.le_of_ble_eq_true rfl) (Nat.le_of_ble_eq_true rfl) (Nat.le_of_ble_eq_true rfl)

set_option maxHeartbeats 4000000 in
set_option maxRecDepth 100000 in
theorem kDM_start_t11 (l : Launch) (D : va_G) (q : Nat → Nat) (cI cJ cZ : ClassId) (hq : c_inj q) (hfl : l.flags = pinnedFlags ++ [noTraceFlag]) (z0 : SC) (a : Int32) (g1 : ¬ (¬ a < 0 ∧ a ≤ 9999)) : MetR l yDM_start wsDM_start { frames := 6, cells := 1, slots := 6, locals := 82 } (va_Pc [.ref (q 0), .int (a)] (c_Ct D q cI cJ cZ z0)) "java/lang/IllegalArgumentException" (c_W D q cI cJ cZ z0) (c_qs q) := by
  refine MetR.ofW (cc := ccDM_start) (maxL := 2) (ret := none) (by decide +kernel) rfl ?_
  intro p e s m args below meth c s₁ B hml hnh hv
  obtain ⟨rfl, ⟨hP, hK⟩, hz⟩ := hv
  have hP0 := hP
  have hx := B.exec
  have hb := B.bytes
  have hr := B.returns
  have hts := atoms_spec (ws := wsDM_start) B.pre
  have hown : s.vm.findClass RDM = some m.cls := findClass_of_methodNamed B.named
  have hlocks := B.notSynchronized
  have hl := lv_entry ([.ref (q 0), .int (a)]) (n := 2) (Nat.le_of_ble_eq_true rfl)
  rw [lg_entry_eq]
  generalize (lg_sl ([.ref (q 0), .int (a)]) ++ List.replicate (2 - (lg_sl ([.ref (q 0), .int (a)])).length) Slot.unset).toArray = ls at hl ⊢
  have hl : lv_has ls 2 [(0, .ref (q 0)), (1, .int (a))] := hl
  refine lv_iload_n hx hb dDM_start_0 rfl (lv_at hl 1 rfl) ?_
  refine lv_if_lt hx hb dDM_start_1 rfl (fun h1 => ?_) (fun h1 => ?_)
  · exact tw_thr (names := exN) hfl va_S.rf (c_ns hP0) (c_up hP) ⟨hx, hb, hl.1.trans hml.symm, hnh, hown, hlocks⟩ (by decide +kernel) exN_fit (Ts := wsA) (fun w h => hts w (List.mem_cons_of_mem _ h)) (fun w h => good_of_word (List.mem_filter.mp h).2) hz own_67 wm2_84 wm1_15 (fun U hW => stZ_mv hW hz.2.1 (164, "an address has four digits") (by decide)) dDM_start_11 dDM_start_14 dDM_start_15 dDM_start_17 dDM_start_20 (Nat.le_of_ble_eq_true rfl) (Nat.le_of_ble_eq_true rfl) (Nat.le_of_ble_eq_true rfl) (Nat.le_of_ble_eq_true rfl)
  · refine lv_iload_n hx hb dDM_start_4 rfl (lv_at hl 1 rfl) ?_
    refine lv_sipush (v := 9999) hx hb dDM_start_5 (by decide) ?_
    refine lv_icmp_le hx hb dDM_start_8 rfl (fun h8 => ?_) (fun h8 => ?_)
    · exact (g1 ⟨h1, h8⟩).elim
    · exact tw_thr (names := exN) hfl va_S.rf (c_ns hP0) (c_up hP) ⟨hx, hb, hl.1.trans hml.symm, hnh, hown, hlocks⟩ (by decide +kernel) exN_fit (Ts := wsA) (fun w h => hts w (List.mem_cons_of_mem _ h)) (fun w h => good_of_word (List.mem_filter.mp h).2) hz own_67 wm2_84 wm1_15 (fun U hW => stZ_mv hW hz.2.1 (164, "an address has four digits") (by decide)) dDM_start_11 dDM_start_14 dDM_start_15 dDM_start_17 dDM_start_20 (Nat.le_of_ble_eq_true rfl) (Nat.le_of_ble_eq_true rfl) (Nat.le_of_ble_eq_true rfl) (Nat.le_of_ble_eq_true rfl)

set_option maxHeartbeats 4000000 in
set_option maxRecDepth 100000 in
theorem kDM_run_t11 (l : Launch) (D : va_G) (q : Nat → Nat) (cI cJ cZ : ClassId) (hq : c_inj q) (hfl : l.flags = pinnedFlags ++ [noTraceFlag]) (z0 : SC) (a : Int32) (g1 : ¬ (¬ a < 0 ∧ a ≤ 300)) : MetR l yDM_run wsDM_run { frames := 6, cells := 1, slots := 6, locals := 82 } (va_Pc [.ref (q 0), .int (a)] (c_Ct D q cI cJ cZ z0)) "java/lang/IllegalArgumentException" (c_W D q cI cJ cZ z0) (c_qs q) := by
  refine MetR.ofW (cc := ccDM_run) (maxL := 2) (ret := (some .int)) (by decide +kernel) rfl ?_
  intro p e s m args below meth c s₁ B hml hnh hv
  obtain ⟨rfl, ⟨hP, hK⟩, hz⟩ := hv
  have hP0 := hP
  have hx := B.exec
  have hb := B.bytes
  have hr := B.returns
  have hts := atoms_spec (ws := wsDM_run) B.pre
  have hown : s.vm.findClass RDM = some m.cls := findClass_of_methodNamed B.named
  have hlocks := B.notSynchronized
  have hl := lv_entry ([.ref (q 0), .int (a)]) (n := 2) (Nat.le_of_ble_eq_true rfl)
  rw [lg_entry_eq]
  generalize (lg_sl ([.ref (q 0), .int (a)]) ++ List.replicate (2 - (lg_sl ([.ref (q 0), .int (a)])).length) Slot.unset).toArray = ls at hl ⊢
  have hl : lv_has ls 2 [(0, .ref (q 0)), (1, .int (a))] := hl
  refine lv_iload_n hx hb dDM_run_0 rfl (lv_at hl 1 rfl) ?_
  refine lv_if_lt hx hb dDM_run_1 rfl (fun h1 => ?_) (fun h1 => ?_)
  · exact tw_thr (names := exN) hfl va_S.rf (c_ns hP0) (c_up hP) ⟨hx, hb, hl.1.trans hml.symm, hnh, hown, hlocks⟩ (by decide +kernel) exN_fit (Ts := wsA) (fun w h => hts w (List.mem_cons_of_mem _ h)) (fun w h => good_of_word (List.mem_filter.mp h).2) hz own_67 wm2_84 wm1_15 (fun U hW => stZ_mv hW hz.2.1 (169, "no such number of steps") (by decide)) dDM_run_11 dDM_run_14 dDM_run_15 dDM_run_17 dDM_run_20 (Nat.le_of_ble_eq_true rfl) (Nat.le_of_ble_eq_true rfl) (Nat.le_of_ble_eq_true rfl) (Nat.le_of_ble_eq_true rfl)
  · refine lv_iload_n hx hb dDM_run_4 rfl (lv_at hl 1 rfl) ?_
    refine lv_sipush (v := 300) hx hb dDM_run_5 (by decide) ?_
    refine lv_icmp_le hx hb dDM_run_8 rfl (fun h8 => ?_) (fun h8 => ?_)
    · exact (g1 ⟨h1, h8⟩).elim
    · exact tw_thr (names := exN) hfl va_S.rf (c_ns hP0) (c_up hP) ⟨hx, hb, hl.1.trans hml.symm, hnh, hown, hlocks⟩ (by decide +kernel) exN_fit (Ts := wsA) (fun w h => hts w (List.mem_cons_of_mem _ h)) (fun w h => good_of_word (List.mem_filter.mp h).2) hz own_67 wm2_84 wm1_15 (fun U hW => stZ_mv hW hz.2.1 (169, "no such number of steps") (by decide)) dDM_run_11 dDM_run_14 dDM_run_15 dDM_run_17 dDM_run_20 (Nat.le_of_ble_eq_true rfl) (Nat.le_of_ble_eq_true rfl) (Nat.le_of_ble_eq_true rfl) (Nat.le_of_ble_eq_true rfl)

set_option maxHeartbeats 4000000 in
set_option maxRecDepth 100000 in
theorem kDM_run_t31 (l : Launch) (D : va_G) (q : Nat → Nat) (cI cJ cZ : ClassId) (hq : c_inj q) (hfl : l.flags = pinnedFlags ++ [noTraceFlag]) (z0 : SC) (a : Int32) (g1 : ¬ a < 0) (g2 : a ≤ 300) (g3 : fPr_isStopped z0 = true) : MetR l yDM_run wsDM_run { frames := 6, cells := 1, slots := 6, locals := 82 } (va_Pc [.ref (q 0), .int (a)] (c_Ct D q cI cJ cZ z0)) "java/lang/IllegalStateException" (c_W D q cI cJ cZ z0) (c_qs q) := by
  refine MetR.ofW (cc := ccDM_run) (maxL := 2) (ret := (some .int)) (by decide +kernel) rfl ?_
  intro p e s m args below meth c s₁ B hml hnh hv
  obtain ⟨rfl, ⟨hP, hK⟩, hz⟩ := hv
  have hP0 := hP
  have hx := B.exec
  have hb := B.bytes
  have hr := B.returns
  have hts := atoms_spec (ws := wsDM_run) B.pre
  have hown : s.vm.findClass RDM = some m.cls := findClass_of_methodNamed B.named
  have hlocks := B.notSynchronized
  have w0 := hts (.fieldLink RDM 35 "DrumMachine" "processor" "LDrumMachine$Processor;") (List.mem_cons_of_mem _ wm1_182)
  have i0 : ∀ w ∈ u_ws RDM TDM 5, w ∈ wsDM_run := fun w h => List.mem_cons_of_mem _ (inADM w h)
  have hl := lv_entry ([.ref (q 0), .int (a)]) (n := 2) (Nat.le_of_ble_eq_true rfl)
  rw [lg_entry_eq]
  generalize (lg_sl ([.ref (q 0), .int (a)]) ++ List.replicate (2 - (lg_sl ([.ref (q 0), .int (a)])).length) Slot.unset).toArray = ls at hl ⊢
  have hl : lv_has ls 2 [(0, .ref (q 0)), (1, .int (a))] := hl
  refine lv_iload_n hx hb dDM_run_0 rfl (lv_at hl 1 rfl) ?_
  refine lv_if_lt hx hb dDM_run_1 rfl (fun h1 => ?_) (fun h1 => ?_)
  · exact (g1 h1).elim
  · refine lv_iload_n hx hb dDM_run_4 rfl (lv_at hl 1 rfl) ?_
    refine lv_sipush (v := 300) hx hb dDM_run_5 (by decide) ?_
    refine lv_icmp_le hx hb dDM_run_8 rfl (fun h8 => ?_) (fun h8 => ?_)
    · refine lv_aload_n hx hb dDM_run_21 rfl (lv_at hl 0 rfl) ?_
      refine cg0_processor hx hb hts i0 hown hK hP w0 dDM_run_22 ?_
      refine cl_rd (W.runV (As := []) (rest := []) ⟨hx, hb, hml, hown, hts⟩ (kPr_isStopped l D q cI cJ cZ hq z0) (cwV 0 hts (gV wm3_121 wm3_122 wm3_123 wm1_6 wm3_124) rfl rfl rfl (by decide +kernel) ⟨Nat.le_of_ble_eq_true rfl, Nat.le_of_ble_eq_true rfl⟩) (c_preV4 hK hP) rfl rfl hl.1 rfl (lv_room (Nat.le_of_ble_eq_true rfl)) dDM_run_25 ⟨Nat.zero_le _, Nat.zero_le _⟩) ?_
      refine wz_ifeq hx hb dDM_run_28 rfl (fun h28 => ?_) (fun h28 => ?_)
      · exact (h28 g3).elim
      · exact tw_thr (names := exN) hfl va_S.rf (c_ns hP0) (c_up hP) ⟨hx, hb, hl.1.trans hml.symm, hnh, hown, hlocks⟩ (by decide +kernel) exN_fit (Ts := wsA) (fun w h => hts w (List.mem_cons_of_mem _ h)) (fun w h => good_of_word (List.mem_filter.mp h).2) hz own_95 wm2_146 wm1_16 (fun U hW => stZ_mv hW hz.2.1 (174, "the machine is stopped") (by decide)) dDM_run_31 dDM_run_34 dDM_run_35 dDM_run_37 dDM_run_40 (Nat.le_of_ble_eq_true rfl) (Nat.le_of_ble_eq_true rfl) (Nat.le_of_ble_eq_true rfl) (Nat.le_of_ble_eq_true rfl)
    · exact (h8 g2).elim

set_option maxHeartbeats 4000000 in
set_option maxRecDepth 100000 in
theorem kDM_register_t52 (l : Launch) (D : va_G) (q : Nat → Nat) (cI cJ cZ : ClassId) (hq : c_inj q) (hfl : l.flags = pinnedFlags ++ [noTraceFlag]) (z0 : SC) (a : Int32) (g1 : ¬ (a = 0 ∨ a = 1 ∨ a = 2)) : MetR l yDM_register wsDM_register { frames := 6, cells := 1, slots := 6, locals := 82 } (va_Pc [.ref (q 0), .int (a)] (c_Ct D q cI cJ cZ z0)) "java/lang/IndexOutOfBoundsException" (c_W D q cI cJ cZ z0) (c_qs q) := by
  refine MetR.ofW (cc := ccDM_register) (maxL := 2) (ret := (some .long)) (by decide +kernel) rfl ?_
  intro p e s m args below meth c s₁ B hml hnh hv
  obtain ⟨rfl, ⟨hP, hK⟩, hz⟩ := hv
  have hP0 := hP
  have hx := B.exec
  have hb := B.bytes
  have hr := B.returns
  have hts := atoms_spec (ws := wsDM_register) B.pre
  have hown : s.vm.findClass RDM = some m.cls := findClass_of_methodNamed B.named
  have hlocks := B.notSynchronized
  have hl := lv_entry ([.ref (q 0), .int (a)]) (n := 2) (Nat.le_of_ble_eq_true rfl)
  rw [lg_entry_eq]
  generalize (lg_sl ([.ref (q 0), .int (a)]) ++ List.replicate (2 - (lg_sl ([.ref (q 0), .int (a)])).length) Slot.unset).toArray = ls at hl ⊢
  have hl : lv_has ls 2 [(0, .ref (q 0)), (1, .int (a))] := hl
  refine lv_iload_n hx hb dDM_register_0 rfl (lv_at hl 1 rfl) ?_
  by_cases h1_0 : a = 0
  · exact (g1 (.inl h1_0)).elim
  · skip
    by_cases h1_1 : a = 1
    · exact (g1 (.inr (.inl h1_1))).elim
    · skip
      by_cases h1_2 : a = 2
      · exact (g1 (.inr (.inr h1_2))).elim
      · skip
        have nh1_0 := lv_neT (k := 0) (a := 0) h1_0 (by decide)
        have nh1_1 := lv_neT (k := 1) (a := 1) h1_1 (by decide)
        have nh1_2 := lv_neT (k := 2) (a := 2) h1_2 (by decide)
        refine lv_tableOut (tgt := 52) hx hb dDM_register_1 (by omega) rfl ?_
        exact tw_thr (names := exN) hfl va_S.rf (c_ns hP0) (c_up hP) ⟨hx, hb, hl.1.trans hml.symm, hnh, hown, hlocks⟩ (by decide +kernel) exN_fit (Ts := wsA) (fun w h => hts w (List.mem_cons_of_mem _ h)) (fun w h => good_of_word (List.mem_filter.mp h).2) hz own_54 wm2_11 wm1_13 (fun U hW => stZ_mv hW hz.2.1 (195, "no such register") (by decide)) dDM_register_52 dDM_register_55 dDM_register_56 dDM_register_58 dDM_register_61 (Nat.le_of_ble_eq_true rfl) (Nat.le_of_ble_eq_true rfl) (Nat.le_of_ble_eq_true rfl) (Nat.le_of_ble_eq_true rfl)

set_option maxHeartbeats 4000000 in
set_option maxRecDepth 100000 in
theorem kDM_sign_t52 (l : Launch) (D : va_G) (q : Nat → Nat) (cI cJ cZ : ClassId) (hq : c_inj q) (hfl : l.flags = pinnedFlags ++ [noTraceFlag]) (z0 : SC) (a : Int32) (g1 : ¬ (a = 0 ∨ a = 1 ∨ a = 2)) : MetR l yDM_sign wsDM_sign { frames := 6, cells := 1, slots := 6, locals := 82 } (va_Pc [.ref (q 0), .int (a)] (c_Ct D q cI cJ cZ z0)) "java/lang/IndexOutOfBoundsException" (c_W D q cI cJ cZ z0) (c_qs q) := by
  refine MetR.ofW (cc := ccDM_sign) (maxL := 2) (ret := (some .boolean)) (by decide +kernel) rfl ?_
  intro p e s m args below meth c s₁ B hml hnh hv
  obtain ⟨rfl, ⟨hP, hK⟩, hz⟩ := hv
  have hP0 := hP
  have hx := B.exec
  have hb := B.bytes
  have hr := B.returns
  have hts := atoms_spec (ws := wsDM_sign) B.pre
  have hown : s.vm.findClass RDM = some m.cls := findClass_of_methodNamed B.named
  have hlocks := B.notSynchronized
  have hl := lv_entry ([.ref (q 0), .int (a)]) (n := 2) (Nat.le_of_ble_eq_true rfl)
  rw [lg_entry_eq]
  generalize (lg_sl ([.ref (q 0), .int (a)]) ++ List.replicate (2 - (lg_sl ([.ref (q 0), .int (a)])).length) Slot.unset).toArray = ls at hl ⊢
  have hl : lv_has ls 2 [(0, .ref (q 0)), (1, .int (a))] := hl
  refine lv_iload_n hx hb dDM_sign_0 rfl (lv_at hl 1 rfl) ?_
  by_cases h1_0 : a = 0
  · exact (g1 (.inl h1_0)).elim
  · skip
    by_cases h1_1 : a = 1
    · exact (g1 (.inr (.inl h1_1))).elim
    · skip
      by_cases h1_2 : a = 2
      · exact (g1 (.inr (.inr h1_2))).elim
      · skip
        have nh1_0 := lv_neT (k := 0) (a := 0) h1_0 (by decide)
        have nh1_1 := lv_neT (k := 1) (a := 1) h1_1 (by decide)
        have nh1_2 := lv_neT (k := 2) (a := 2) h1_2 (by decide)
        refine lv_tableOut (tgt := 52) hx hb dDM_sign_1 (by omega) rfl ?_
        exact tw_thr (names := exN) hfl va_S.rf (c_ns hP0) (c_up hP) ⟨hx, hb, hl.1.trans hml.symm, hnh, hown, hlocks⟩ (by decide +kernel) exN_fit (Ts := wsA) (fun w h => hts w (List.mem_cons_of_mem _ h)) (fun w h => good_of_word (List.mem_filter.mp h).2) hz own_54 wm2_11 wm1_13 (fun U hW => stZ_mv hW hz.2.1 (206, "no such sign") (by decide)) dDM_sign_52 dDM_sign_55 dDM_sign_56 dDM_sign_58 dDM_sign_61 (Nat.le_of_ble_eq_true rfl) (Nat.le_of_ble_eq_true rfl) (Nat.le_of_ble_eq_true rfl) (Nat.le_of_ble_eq_true rfl)

set_option maxHeartbeats 4000000 in
set_option maxRecDepth 100000 in
theorem kDM_get_t7 (l : Launch) (D : va_G) (q : Nat → Nat) (cI cJ cZ : ClassId) (hq : c_inj q) (hfl : l.flags = pinnedFlags ++ [noTraceFlag]) (z0 : SC) (a : Int32) (g1 : ¬ fDr_hasAddress a = true) : MetR l yDM_get wsDM_get { frames := 6, cells := 1, slots := 6, locals := 82 } (va_Pc [.ref (q 0), .int (a)] (c_Ct D q cI cJ cZ z0)) "java/lang/IndexOutOfBoundsException" (c_W D q cI cJ cZ z0) (c_qs q) := by
  refine MetR.ofW (cc := ccDM_get) (maxL := 2) (ret := (some .long)) (by decide +kernel) rfl ?_
  intro p e s m args below meth c s₁ B hml hnh hv
  obtain ⟨rfl, ⟨hP, hK⟩, hz⟩ := hv
  have hP0 := hP
  have hx := B.exec
  have hb := B.bytes
  have hr := B.returns
  have hts := atoms_spec (ws := wsDM_get) B.pre
  have hown : s.vm.findClass RDM = some m.cls := findClass_of_methodNamed B.named
  have hlocks := B.notSynchronized
  have hl := lv_entry ([.ref (q 0), .int (a)]) (n := 2) (Nat.le_of_ble_eq_true rfl)
  rw [lg_entry_eq]
  generalize (lg_sl ([.ref (q 0), .int (a)]) ++ List.replicate (2 - (lg_sl ([.ref (q 0), .int (a)])).length) Slot.unset).toArray = ls at hl ⊢
  have hl : lv_has ls 2 [(0, .ref (q 0)), (1, .int (a))] := hl
  refine lv_iload_n hx hb dDM_get_0 rfl (lv_at hl 1 rfl) ?_
  refine cl_rd (W.runS (As := [.int (a)]) (rest := []) ⟨hx, hb, hml, hown, hts⟩ (kDr_hasAddress l a) (va_cwS 1 hts (gS wm2_8 wm2_9 wm1_2 wm2_10) rfl rfl rfl (by decide +kernel) ⟨Nat.le_of_ble_eq_true rfl, Nat.le_of_ble_eq_true rfl⟩) (preT) rfl rfl hl.1 rfl (lv_room (Nat.le_of_ble_eq_true rfl)) dDM_get_1 ⟨Nat.zero_le _, Nat.zero_le _⟩) ?_
  refine wz_ifne hx hb dDM_get_4 rfl (fun h4 => ?_) (fun h4 => ?_)
  · exact (g1 h4).elim
  · exact tw_thr (names := exN) hfl va_S.rf (c_ns hP0) (c_up hP) ⟨hx, hb, hl.1.trans hml.symm, hnh, hown, hlocks⟩ (by decide +kernel) exN_fit (Ts := wsA) (fun w h => hts w (List.mem_cons_of_mem _ h)) (fun w h => good_of_word (List.mem_filter.mp h).2) hz own_54 wm2_11 wm1_13 (fun U hW => stZ_mv hW hz.2.1 (52, "no such address") (by decide)) dDM_get_7 dDM_get_10 dDM_get_11 dDM_get_13 dDM_get_16 (Nat.le_of_ble_eq_true rfl) (Nat.le_of_ble_eq_true rfl) (Nat.le_of_ble_eq_true rfl) (Nat.le_of_ble_eq_true rfl)

set_option maxHeartbeats 4000000 in
set_option maxRecDepth 100000 in
theorem kDM_output_t11 (l : Launch) (D : va_G) (q : Nat → Nat) (cI cJ cZ : ClassId) (hq : c_inj q) (hfl : l.flags = pinnedFlags ++ [noTraceFlag]) (z0 : SC) (a : Int32) (g1 : ¬ fPu_hasWord z0 a = true) : MetR l yDM_output wsDM_output { frames := 6, cells := 1, slots := 6, locals := 82 } (va_Pc [.ref (q 0), .int (a)] (c_Ct D q cI cJ cZ z0)) "java/lang/IndexOutOfBoundsException" (c_W D q cI cJ cZ z0) (c_qs q) := by
  refine MetR.ofW (cc := ccDM_output) (maxL := 2) (ret := (some .long)) (by decide +kernel) rfl ?_
  intro p e s m args below meth c s₁ B hml hnh hv
  obtain ⟨rfl, ⟨hP, hK⟩, hz⟩ := hv
  have hP0 := hP
  have hx := B.exec
  have hb := B.bytes
  have hr := B.returns
  have hts := atoms_spec (ws := wsDM_output) B.pre
  have hown : s.vm.findClass RDM = some m.cls := findClass_of_methodNamed B.named
  have hlocks := B.notSynchronized
  have w0 := hts (.fieldLink RDM 26 "DrumMachine" "punch" "LDrumMachine$Punch;") (List.mem_cons_of_mem _ wm1_181)
  have i0 : ∀ w ∈ u_ws RDM TDM 5, w ∈ wsDM_output := fun w h => List.mem_cons_of_mem _ (inADM w h)
  have hl := lv_entry ([.ref (q 0), .int (a)]) (n := 2) (Nat.le_of_ble_eq_true rfl)
  rw [lg_entry_eq]
  generalize (lg_sl ([.ref (q 0), .int (a)]) ++ List.replicate (2 - (lg_sl ([.ref (q 0), .int (a)])).length) Slot.unset).toArray = ls at hl ⊢
  have hl : lv_has ls 2 [(0, .ref (q 0)), (1, .int (a))] := hl
  refine lv_aload_n hx hb dDM_output_0 rfl (lv_at hl 0 rfl) ?_
  refine cg0_punch hx hb hts i0 hown hK hP w0 dDM_output_1 ?_
  refine lv_iload_n hx hb dDM_output_4 rfl (lv_at hl 1 rfl) ?_
  refine cl_rd (W.runV (As := [.int (a)]) (rest := []) ⟨hx, hb, hml, hown, hts⟩ (kPu_hasWord l D q cI cJ cZ hq z0 a) (cwV 1 hts (gV wm4_164 wm4_165 wm4_166 wm1_5 wm4_167) rfl rfl rfl (by decide +kernel) ⟨Nat.le_of_ble_eq_true rfl, Nat.le_of_ble_eq_true rfl⟩) (c_preV3 hK hP) rfl rfl hl.1 rfl (lv_room (Nat.le_of_ble_eq_true rfl)) dDM_output_5 ⟨Nat.zero_le _, Nat.zero_le _⟩) ?_
  refine wz_ifne hx hb dDM_output_8 rfl (fun h8 => ?_) (fun h8 => ?_)
  · exact (g1 h8).elim
  · exact tw_thr (names := exN) hfl va_S.rf (c_ns hP0) (c_up hP) ⟨hx, hb, hl.1.trans hml.symm, hnh, hown, hlocks⟩ (by decide +kernel) exN_fit (Ts := wsA) (fun w h => hts w (List.mem_cons_of_mem _ h)) (fun w h => good_of_word (List.mem_filter.mp h).2) hz own_54 wm2_11 wm1_13 (fun U hW => stZ_mv hW hz.2.1 (227, "no such word of the output") (by decide)) dDM_output_11 dDM_output_14 dDM_output_15 dDM_output_17 dDM_output_20 (Nat.le_of_ble_eq_true rfl) (Nat.le_of_ble_eq_true rfl) (Nat.le_of_ble_eq_true rfl) (Nat.le_of_ble_eq_true rfl)
