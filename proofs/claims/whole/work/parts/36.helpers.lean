abbrev ccLa_word : ByteArray := method_3_code
def yLa_word : MethodName := ⟨RLa, "word", "(LDrumMachine;IJZ)I"⟩
abbrev wsLa_word : List Cond := Cond.codeWith yLa_word ccLa_word 6 (some .int) [(0, 8, 11, 13), (0, 8, 15, 15)] :: wsA
theorem cwLa_word : Cond.codeWith yLa_word ccLa_word 6 (some .int) [(0, 8, 11, 13), (0, 8, 15, 15)] ∈ wsA := memA2 (i := 1) rfl rfl
theorem dLa_word_0 : decode ccLa_word 0 = .ok (.aload_n 0, 1) := by decide +kernel
theorem dLa_word_1 : decode ccLa_word 1 = .ok (.iload_n 1, 1) := by decide +kernel
theorem dLa_word_2 : decode ccLa_word 2 = .ok (.lload_n 2, 1) := by decide +kernel
theorem dLa_word_3 : decode ccLa_word 3 = .ok (.iload 4, 2) := by decide +kernel
theorem dLa_word_5 : decode ccLa_word 5 = .ok (.invokevirtual 7, 3) := by decide +kernel
theorem dLa_word_8 : decode ccLa_word 8 = .ok (.goto 11, 3) := by decide +kernel
theorem dLa_word_11 : decode ccLa_word 11 = .ok (.astore 5, 2) := by decide +kernel
theorem dLa_word_13 : decode ccLa_word 13 = .ok (.iconst 1, 1) := by decide +kernel
theorem dLa_word_14 : decode ccLa_word 14 = .ok (.ireturn, 1) := by decide +kernel
theorem dLa_word_15 : decode ccLa_word 15 = .ok (.astore 5, 2) := by decide +kernel
theorem dLa_word_17 : decode ccLa_word 17 = .ok (.iconst 2, 1) := by decide +kernel
theorem dLa_word_18 : decode ccLa_word 18 = .ok (.ireturn, 1) := by decide +kernel
theorem dLa_word_19 : decode ccLa_word 19 = .ok (.iconst 0, 1) := by decide +kernel
theorem dLa_word_20 : decode ccLa_word 20 = .ok (.ireturn, 1) := by decide +kernel
def gLa_word (z0 : SC) (f0 : Nat → Int64) (a : Int32) (v : Int64) (b : Bool) : Int32 × SC × (Nat → Int64) :=
  (if fDr_hasAddress a = true then (if fDg_fitWord v = true then (0, fDM_word z0 a v b, f0) else (2, z0, f0)) else (1, z0, f0))
set_option maxHeartbeats 4000000 in
set_option maxRecDepth 100000 in
theorem kLa_word (l : Launch) (D : va_G) (q : Nat → Nat) (cI cJ cZ : ClassId) (hq : c_inj q) (hfl : l.flags = pinnedFlags ++ [noTraceFlag]) (o : Nat) (hoq : ¬ c_qs q o) (z0 : SC) (f0 : Nat → Int64) (a : Int32) (v : Int64) (b : Bool)  : Met l yLa_word wsLa_word { frames := 7, cells := 1, slots := 6, locals := 106 } (va_Pc [.ref (q 0), .int (a), .long (v), .int (bb (b))] (hC D q cI cJ cZ o z0 f0)) (hQ D q cI cJ cZ o (gLa_word z0 f0 a v b)) 1 6 (hA q o) := by
  refine va_MetW (cc := ccLa_word) (maxL := 6) (ret := some .int) (hh := [(0, 8, 11, 13), (0, 8, 15, 15)]) (by decide +kernel) rfl ?_
  intro p e s m args below meth c s₁ B hml hv
  obtain ⟨rfl, ⟨hP, hK⟩, hz, hn, hO⟩ := hv
  have hx := B.exec
  have hb := B.bytes
  have hr := B.returns
  have hts := atoms_spec (ws := wsLa_word) B.pre
  have hown : s.vm.findClass RLa = some m.cls := findClass_of_methodNamed B.named
  have hlocks := B.notSynchronized
  have htab := hd_tab B (hts _ List.mem_cons_self)
  have hS : va_S (hA q o) s.heap s.heap [] := va_S.rf
  have hl := lv_entry ([.ref (q 0), .int (a), .long (v), .int (bb (b))]) (n := 6) (Nat.le_of_ble_eq_true rfl)
  rw [lg_entry_eq]
  generalize (lg_sl ([.ref (q 0), .int (a), .long (v), .int (bb (b))]) ++ List.replicate (6 - (lg_sl ([.ref (q 0), .int (a), .long (v), .int (bb (b))])).length) Slot.unset).toArray = ls at hl ⊢
  have hl : lv_has ls 6 [(0, .ref (q 0)), (1, .int (a)), (2, .long (v)), (4, .int (bb (b)))] := hl
  have hR := gLa_word.eq_1 z0 f0 a v b
  refine lv_aload_n hx hb dLa_word_0 rfl (lv_at hl 0 rfl) ?_
  refine lv_iload_n hx hb dLa_word_1 rfl (lv_at hl 1 rfl) ?_
  refine lv_lload_n hx hb dLa_word_2 rfl (lv_at hl 2 rfl) ?_
  refine lv_iload hx hb dLa_word_3 (lv_at hl 3 rfl) ?_
  by_cases g1 : fDr_hasAddress a = true
  · have hR := hR.trans (if_pos g1)
    by_cases g2 : fDg_fitWord v = true
    · have hR := hR.trans (if_pos g2)
      refine cl_w2 (W.runV (As := [.int (a), .long (v), .int (bb (b))]) (rest := []) ⟨hx, hb, hml, hown, hts⟩ (kDM_word l D q cI cJ cZ hq z0 a v b g1 g2) (cwV 3 hts (gV wm2_4 wm2_5 wm2_6 wm1_1 wm2_7) rfl rfl rfl (by decide +kernel) ⟨Nat.le_of_ble_eq_true rfl, Nat.le_of_ble_eq_true rfl⟩) (c_preV0 hK hP) rfl rfl hl.1 rfl (lv_room (Nat.le_of_ble_eq_true rfl)) dLa_word_5 ⟨Nat.zero_le _, Nat.zero_le _⟩) hS (fun _ h => .inl h) (fun _ h => .inl h) (fun H locs hP hk hS => ?_)
      have hO := hO.kept (hk o hO.lt hoq)
      refine w_pad (cells' := 1) (slots' := 6) (Nat.zero_le _) (Nat.zero_le _) ?_
      refine lv_goto hx hb dLa_word_8 rfl ?_
      refine lv_iconst (v := 0) hx hb dLa_word_19 (by decide) ?_
      exact W.iret hx hb hr (fun t ht _ => ⟨by rw [hR]; first | done | rfl, by rw [hR, ht]; dsimp only; exact hP, by rw [hR, ht]; dsimp only; exact hO, hS.F ht⟩) hS.2.2 dLa_word_20
    · have hR := hR.trans (if_neg g2)
      refine ct_row (hpc := 15) (E := "java/lang/IllegalArgumentException") (As := [.int (a), .long (v), .int (bb (b))]) (rest := []) (B := hA q o) ⟨hx, hb, hml, hown, hts⟩ (kDM_word_t24 l D q cI cJ cZ hq hfl z0 a v b g1 g2) (cwV 3 hts (gV wm2_4 wm2_5 wm2_6 wm1_1 wm2_7) rfl rfl rfl (by decide +kernel) ⟨Nat.le_of_ble_eq_true rfl, Nat.le_of_ble_eq_true rfl⟩) (c_preT hK hP (xZ_at hz)) rfl hl.1 (Nat.le_of_ble_eq_true rfl) dLa_word_5 ⟨Nat.le_refl _, Nat.le_refl _⟩ hS (fun _ h => .inl h) htab (⟨by decide, by decide, by decide, "java/lang/IndexOutOfBoundsException", hts _ (List.mem_cons_of_mem _ wm2_2), .inr ⟨nc_mv (State.WarmedH.refl s) (hn ("java/lang/IllegalArgumentException", "java/lang/IndexOutOfBoundsException") (by decide)), ⟨by decide, by decide, by decide, "java/lang/IllegalArgumentException", hts _ (List.mem_cons_of_mem _ wm2_3), .inl ⟨exA_at hz.2.2 _ (by decide +kernel), rfl⟩⟩⟩⟩) (hts _ (List.mem_cons_of_mem _ wm2_85)) (fun ex H locs hP hk hS => ?_)
      have hO := hO.kept (hk o hO.lt hoq)
      refine lv_astore (lv' := [(5, .ref (ex)), (0, .ref (q 0)), (1, .int (a)), (2, .long (v)), (4, .int (bb (b)))]) hx hb dLa_word_15 hl (by decide) rfl (fun ls hl => ?_)
      refine lv_iconst (v := 2) hx hb dLa_word_17 (by decide) ?_
      exact W.iret hx hb hr (fun t ht _ => ⟨by rw [hR]; first | done | rfl, by rw [hR, ht]; dsimp only; exact hP, by rw [hR, ht]; dsimp only; exact hO, hS.F ht⟩) hS.2.2 dLa_word_18
  · have hR := hR.trans (if_neg g1)
    refine ct_row (hpc := 11) (E := "java/lang/IndexOutOfBoundsException") (As := [.int (a), .long (v), .int (bb (b))]) (rest := []) (B := hA q o) ⟨hx, hb, hml, hown, hts⟩ (kDM_word_t7 l D q cI cJ cZ hq hfl z0 a v b g1) (cwV 3 hts (gV wm2_4 wm2_5 wm2_6 wm1_1 wm2_7) rfl rfl rfl (by decide +kernel) ⟨Nat.le_of_ble_eq_true rfl, Nat.le_of_ble_eq_true rfl⟩) (c_preT hK hP (xZ_at hz)) rfl hl.1 (Nat.le_of_ble_eq_true rfl) dLa_word_5 ⟨Nat.le_refl _, Nat.le_refl _⟩ hS (fun _ h => .inl h) htab (⟨by decide, by decide, by decide, "java/lang/IndexOutOfBoundsException", hts _ (List.mem_cons_of_mem _ wm2_2), .inl ⟨exA_at hz.2.2 _ (by decide +kernel), rfl⟩⟩) (hts _ (List.mem_cons_of_mem _ wm2_12)) (fun ex H locs hP hk hS => ?_)
    have hO := hO.kept (hk o hO.lt hoq)
    refine lv_astore (lv' := [(5, .ref (ex)), (0, .ref (q 0)), (1, .int (a)), (2, .long (v)), (4, .int (bb (b)))]) hx hb dLa_word_11 hl (by decide) rfl (fun ls hl => ?_)
    refine lv_iconst (v := 1) hx hb dLa_word_13 (by decide) ?_
    exact W.iret hx hb hr (fun t ht _ => ⟨by rw [hR]; first | done | rfl, by rw [hR, ht]; dsimp only; exact hP, by rw [hR, ht]; dsimp only; exact hO, hS.F ht⟩) hS.2.2 dLa_word_14
abbrev ccLa_flip : ByteArray := method_4_code
def yLa_flip : MethodName := ⟨RLa, "flip", "(LDrumMachine;III[J)I"⟩
abbrev wsLa_flip : List Cond := Cond.codeWith yLa_flip ccLa_flip 6 (some .int) [(0, 19, 22, 13)] :: wsA
theorem cwLa_flip : Cond.codeWith yLa_flip ccLa_flip 6 (some .int) [(0, 19, 22, 13)] ∈ wsA := memA2 (i := 107) rfl rfl
theorem dLa_flip_0 : decode ccLa_flip 0 = .ok (.aload 4, 2) := by decide +kernel
theorem dLa_flip_2 : decode ccLa_flip 2 = .ok (.iconst 0, 1) := by decide +kernel
theorem dLa_flip_3 : decode ccLa_flip 3 = .ok (.aload_n 0, 1) := by decide +kernel
theorem dLa_flip_4 : decode ccLa_flip 4 = .ok (.iload_n 1, 1) := by decide +kernel
theorem dLa_flip_5 : decode ccLa_flip 5 = .ok (.iload_n 2, 1) := by decide +kernel
theorem dLa_flip_6 : decode ccLa_flip 6 = .ok (.iload_n 3, 1) := by decide +kernel
theorem dLa_flip_7 : decode ccLa_flip 7 = .ok (.invokevirtual 17, 3) := by decide +kernel
theorem dLa_flip_10 : decode ccLa_flip 10 = .ok (.ifCond .eq 7, 3) := by decide +kernel
theorem dLa_flip_13 : decode ccLa_flip 13 = .ok (.lconst 1, 1) := by decide +kernel
theorem dLa_flip_14 : decode ccLa_flip 14 = .ok (.goto 4, 3) := by decide +kernel
theorem dLa_flip_17 : decode ccLa_flip 17 = .ok (.lconst 0, 1) := by decide +kernel
theorem dLa_flip_18 : decode ccLa_flip 18 = .ok (.lastore, 1) := by decide +kernel
theorem dLa_flip_19 : decode ccLa_flip 19 = .ok (.goto 7, 3) := by decide +kernel
theorem dLa_flip_22 : decode ccLa_flip 22 = .ok (.astore 5, 2) := by decide +kernel
theorem dLa_flip_24 : decode ccLa_flip 24 = .ok (.iconst 1, 1) := by decide +kernel
theorem dLa_flip_25 : decode ccLa_flip 25 = .ok (.ireturn, 1) := by decide +kernel
theorem dLa_flip_26 : decode ccLa_flip 26 = .ok (.iconst 0, 1) := by decide +kernel
theorem dLa_flip_27 : decode ccLa_flip 27 = .ok (.ireturn, 1) := by decide +kernel
def gLa_flip (z0 : SC) (f0 : Nat → Int64) (a : Int32) (d : Int32) (b : Int32) : Int32 × SC × (Nat → Int64) :=
  (if fDr_hasBit a d b = true then (if ((fDM_flip z0 a d b).1) = true then (0, (fDM_flip z0 a d b).2, vp_updL f0 0 1) else (0, (fDM_flip z0 a d b).2, vp_updL f0 0 0)) else (1, z0, f0))
set_option maxHeartbeats 4000000 in
set_option maxRecDepth 100000 in
theorem kLa_flip (l : Launch) (D : va_G) (q : Nat → Nat) (cI cJ cZ : ClassId) (hq : c_inj q) (hfl : l.flags = pinnedFlags ++ [noTraceFlag]) (o : Nat) (hoq : ¬ c_qs q o) (z0 : SC) (f0 : Nat → Int64) (a : Int32) (d : Int32) (b : Int32)  : Met l yLa_flip wsLa_flip { frames := 7, cells := 1, slots := 6, locals := 112 } (va_Pc [.ref (q 0), .int (a), .int (d), .int (b), .ref (o)] (hC D q cI cJ cZ o z0 f0)) (hQ D q cI cJ cZ o (gLa_flip z0 f0 a d b)) 1 6 (hA q o) := by
  refine va_MetW (cc := ccLa_flip) (maxL := 6) (ret := some .int) (hh := [(0, 19, 22, 13)]) (by decide +kernel) rfl ?_
  intro p e s m args below meth c s₁ B hml hv
  obtain ⟨rfl, ⟨hP, hK⟩, hz, hn, hO⟩ := hv
  have hx := B.exec
  have hb := B.bytes
  have hr := B.returns
  have hts := atoms_spec (ws := wsLa_flip) B.pre
  have hown : s.vm.findClass RLa = some m.cls := findClass_of_methodNamed B.named
  have hlocks := B.notSynchronized
  have htab := hd_tab B (hts _ List.mem_cons_self)
  have hS : va_S (hA q o) s.heap s.heap [] := va_S.rf
  have hl := lv_entry ([.ref (q 0), .int (a), .int (d), .int (b), .ref (o)]) (n := 6) (Nat.le_of_ble_eq_true rfl)
  rw [lg_entry_eq]
  generalize (lg_sl ([.ref (q 0), .int (a), .int (d), .int (b), .ref (o)]) ++ List.replicate (6 - (lg_sl ([.ref (q 0), .int (a), .int (d), .int (b), .ref (o)])).length) Slot.unset).toArray = ls at hl ⊢
  have hl : lv_has ls 6 [(0, .ref (q 0)), (1, .int (a)), (2, .int (d)), (3, .int (b)), (4, .ref (o))] := hl
  have hR := gLa_flip.eq_1 z0 f0 a d b
  refine lv_aload hx hb dLa_flip_0 (lv_at hl 4 rfl) ?_
  refine lv_iconst (v := 0) hx hb dLa_flip_2 (by decide) ?_
  refine lv_aload_n hx hb dLa_flip_3 rfl (lv_at hl 0 rfl) ?_
  refine lv_iload_n hx hb dLa_flip_4 rfl (lv_at hl 1 rfl) ?_
  refine lv_iload_n hx hb dLa_flip_5 rfl (lv_at hl 2 rfl) ?_
  refine lv_iload_n hx hb dLa_flip_6 rfl (lv_at hl 3 rfl) ?_
  by_cases g1 : fDr_hasBit a d b = true
  · have hR := hR.trans (if_pos g1)
    refine cl_w2 (W.runV (As := [.int (a), .int (d), .int (b)]) (rest := [.int (0), .ref (o)]) ⟨hx, hb, hml, hown, hts⟩ (kDM_flip l D q cI cJ cZ hq z0 a d b g1) (cwV 3 hts (gV wm2_108 wm2_109 wm2_110 wm1_1 wm2_111) rfl rfl rfl (by decide +kernel) ⟨Nat.le_of_ble_eq_true rfl, Nat.le_of_ble_eq_true rfl⟩) (c_preV0 hK hP) rfl rfl hl.1 rfl (lv_room (Nat.le_of_ble_eq_true rfl)) dLa_flip_7 ⟨Nat.zero_le _, Nat.zero_le _⟩) hS (fun _ h => .inl h) (fun _ h => .inl h) (fun H locs hP hk hS => ?_)
    have hO := hO.kept (hk o hO.lt hoq)
    refine w_pad (cells' := 1) (slots' := 6) (Nat.zero_le _) (Nat.zero_le _) ?_
    refine wz_ifeq hx hb dLa_flip_10 rfl (fun h10 => ?_) (fun h10 => ?_)
    · have hR := hR.trans (if_neg h10)
      refine lv_lconst (v := 0) hx hb dLa_flip_17 (by decide) ?_
      refine ow_last (x := 0) hx hb hK hO hS (.inr rfl) dLa_flip_18 (fun H locs hO hk hS => ?_)
      have hP := c_up2 hP (fun a ha => hk a (fun h => hoq (h ▸ ha)))
      refine lv_goto hx hb dLa_flip_19 rfl ?_
      refine lv_iconst (v := 0) hx hb dLa_flip_26 (by decide) ?_
      exact W.iret hx hb hr (fun t ht _ => ⟨by rw [hR]; first | done | rfl, by rw [hR, ht]; dsimp only; exact hP, by rw [hR, ht]; dsimp only; exact hO, hS.F ht⟩) hS.2.2 dLa_flip_27
    · have hR := hR.trans (if_pos h10)
      refine lv_lconst (v := 1) hx hb dLa_flip_13 (by decide) ?_
      refine lv_goto hx hb dLa_flip_14 rfl ?_
      refine ow_last (x := 1) hx hb hK hO hS (.inr rfl) dLa_flip_18 (fun H locs hO hk hS => ?_)
      have hP := c_up2 hP (fun a ha => hk a (fun h => hoq (h ▸ ha)))
      refine lv_goto hx hb dLa_flip_19 rfl ?_
      refine lv_iconst (v := 0) hx hb dLa_flip_26 (by decide) ?_
      exact W.iret hx hb hr (fun t ht _ => ⟨by rw [hR]; first | done | rfl, by rw [hR, ht]; dsimp only; exact hP, by rw [hR, ht]; dsimp only; exact hO, hS.F ht⟩) hS.2.2 dLa_flip_27
  · have hR := hR.trans (if_neg g1)
    refine ct_row (hpc := 22) (E := "java/lang/IndexOutOfBoundsException") (As := [.int (a), .int (d), .int (b)]) (rest := [.int (0), .ref (o)]) (B := hA q o) ⟨hx, hb, hml, hown, hts⟩ (kDM_flip_t9 l D q cI cJ cZ hq hfl z0 a d b g1) (cwV 3 hts (gV wm2_108 wm2_109 wm2_110 wm1_1 wm2_111) rfl rfl rfl (by decide +kernel) ⟨Nat.le_of_ble_eq_true rfl, Nat.le_of_ble_eq_true rfl⟩) (c_preT hK hP (xZ_at hz)) rfl hl.1 (Nat.le_of_ble_eq_true rfl) dLa_flip_7 ⟨Nat.le_refl _, Nat.le_refl _⟩ hS (fun _ h => .inl h) htab (⟨by decide, by decide, by decide, "java/lang/IndexOutOfBoundsException", hts _ (List.mem_cons_of_mem _ wm2_2), .inl ⟨exA_at hz.2.2 _ (by decide +kernel), rfl⟩⟩) (hts _ (List.mem_cons_of_mem _ wm2_12)) (fun ex H locs hP hk hS => ?_)
    have hO := hO.kept (hk o hO.lt hoq)
    refine lv_astore (lv' := [(5, .ref (ex)), (0, .ref (q 0)), (1, .int (a)), (2, .int (d)), (3, .int (b)), (4, .ref (o))]) hx hb dLa_flip_22 hl (by decide) rfl (fun ls hl => ?_)
    refine lv_iconst (v := 1) hx hb dLa_flip_24 (by decide) ?_
    exact W.iret hx hb hr (fun t ht _ => ⟨by rw [hR]; first | done | rfl, by rw [hR, ht]; dsimp only; exact hP, by rw [hR, ht]; dsimp only; exact hO, hS.F ht⟩) hS.2.2 dLa_flip_25
abbrev ccLa_card : ByteArray := method_5_code
def yLa_card : MethodName := ⟨RLa, "card", "(LDrumMachine;JZ[J)I"⟩
abbrev wsLa_card : List Cond := Cond.codeWith yLa_card ccLa_card 6 (some .int) [(0, 11, 14, 15), (0, 11, 18, 25)] :: wsA
theorem cwLa_card : Cond.codeWith yLa_card ccLa_card 6 (some .int) [(0, 11, 14, 15), (0, 11, 18, 25)] ∈ wsA := memA2 (i := 135) rfl rfl
theorem dLa_card_0 : decode ccLa_card 0 = .ok (.aload 4, 2) := by decide +kernel
theorem dLa_card_2 : decode ccLa_card 2 = .ok (.iconst 0, 1) := by decide +kernel
theorem dLa_card_3 : decode ccLa_card 3 = .ok (.aload_n 0, 1) := by decide +kernel
theorem dLa_card_4 : decode ccLa_card 4 = .ok (.lload_n 1, 1) := by decide +kernel
theorem dLa_card_5 : decode ccLa_card 5 = .ok (.iload_n 3, 1) := by decide +kernel
theorem dLa_card_6 : decode ccLa_card 6 = .ok (.invokevirtual 21, 3) := by decide +kernel
theorem dLa_card_9 : decode ccLa_card 9 = .ok (.i2l, 1) := by decide +kernel
theorem dLa_card_10 : decode ccLa_card 10 = .ok (.lastore, 1) := by decide +kernel
theorem dLa_card_11 : decode ccLa_card 11 = .ok (.goto 11, 3) := by decide +kernel
theorem dLa_card_14 : decode ccLa_card 14 = .ok (.astore 5, 2) := by decide +kernel
theorem dLa_card_16 : decode ccLa_card 16 = .ok (.iconst 1, 1) := by decide +kernel
theorem dLa_card_17 : decode ccLa_card 17 = .ok (.ireturn, 1) := by decide +kernel
theorem dLa_card_18 : decode ccLa_card 18 = .ok (.astore 5, 2) := by decide +kernel
theorem dLa_card_20 : decode ccLa_card 20 = .ok (.iconst 2, 1) := by decide +kernel
theorem dLa_card_21 : decode ccLa_card 21 = .ok (.ireturn, 1) := by decide +kernel
theorem dLa_card_22 : decode ccLa_card 22 = .ok (.iconst 0, 1) := by decide +kernel
theorem dLa_card_23 : decode ccLa_card 23 = .ok (.ireturn, 1) := by decide +kernel
def gLa_card (z0 : SC) (f0 : Nat → Int64) (v : Int64) (b : Bool) : Int32 × SC × (Nat → Int64) :=
  (if fDg_fitWord v = true then (if fCd_isFull z0 = true then (2, z0, f0) else (0, (fDM_card z0 v b).2, vp_updL f0 0 (((fDM_card z0 v b).1).toInt64))) else (1, z0, f0))
set_option maxHeartbeats 4000000 in
set_option maxRecDepth 100000 in
theorem kLa_card (l : Launch) (D : va_G) (q : Nat → Nat) (cI cJ cZ : ClassId) (hq : c_inj q) (hfl : l.flags = pinnedFlags ++ [noTraceFlag]) (o : Nat) (hoq : ¬ c_qs q o) (z0 : SC) (f0 : Nat → Int64) (v : Int64) (b : Bool) (hi : ¬ fCd_isFull z0 = true → vp_in ((c_cfirst z0 + c_ccount z0) % 20) 20) : Met l yLa_card wsLa_card { frames := 7, cells := 1, slots := 6, locals := 105 } (va_Pc [.ref (q 0), .long (v), .int (bb (b)), .ref (o)] (hC D q cI cJ cZ o z0 f0)) (hQ D q cI cJ cZ o (gLa_card z0 f0 v b)) 1 6 (hA q o) := by
  refine va_MetW (cc := ccLa_card) (maxL := 6) (ret := some .int) (hh := [(0, 11, 14, 15), (0, 11, 18, 25)]) (by decide +kernel) rfl ?_
  intro p e s m args below meth c s₁ B hml hv
  obtain ⟨rfl, ⟨hP, hK⟩, hz, hn, hO⟩ := hv
  have hx := B.exec
  have hb := B.bytes
  have hr := B.returns
  have hts := atoms_spec (ws := wsLa_card) B.pre
  have hown : s.vm.findClass RLa = some m.cls := findClass_of_methodNamed B.named
  have hlocks := B.notSynchronized
  have htab := hd_tab B (hts _ List.mem_cons_self)
  have hS : va_S (hA q o) s.heap s.heap [] := va_S.rf
  have hl := lv_entry ([.ref (q 0), .long (v), .int (bb (b)), .ref (o)]) (n := 6) (Nat.le_of_ble_eq_true rfl)
  rw [lg_entry_eq]
  generalize (lg_sl ([.ref (q 0), .long (v), .int (bb (b)), .ref (o)]) ++ List.replicate (6 - (lg_sl ([.ref (q 0), .long (v), .int (bb (b)), .ref (o)])).length) Slot.unset).toArray = ls at hl ⊢
  have hl : lv_has ls 6 [(0, .ref (q 0)), (1, .long (v)), (3, .int (bb (b))), (4, .ref (o))] := hl
  have hR := gLa_card.eq_1 z0 f0 v b
  refine lv_aload hx hb dLa_card_0 (lv_at hl 3 rfl) ?_
  refine lv_iconst (v := 0) hx hb dLa_card_2 (by decide) ?_
  refine lv_aload_n hx hb dLa_card_3 rfl (lv_at hl 0 rfl) ?_
  refine lv_lload_n hx hb dLa_card_4 rfl (lv_at hl 1 rfl) ?_
  refine lv_iload_n hx hb dLa_card_5 rfl (lv_at hl 2 rfl) ?_
  by_cases g1 : fDg_fitWord v = true
  · have hR := hR.trans (if_pos g1)
    by_cases g2 : fCd_isFull z0 = true
    · have hR := hR.trans (if_pos g2)
      refine ct_row (hpc := 18) (E := "java/lang/IllegalStateException") (As := [.long (v), .int (bb (b))]) (rest := [.int (0), .ref (o)]) (B := hA q o) ⟨hx, hb, hml, hown, hts⟩ (kDM_card_t27 l D q cI cJ cZ hq hfl z0 v b g1 g2) (cwV 2 hts (gV wm2_137 wm2_138 wm2_139 wm1_1 wm2_140) rfl rfl rfl (by decide +kernel) ⟨Nat.le_of_ble_eq_true rfl, Nat.le_of_ble_eq_true rfl⟩) (c_preT hK hP (xZ_at hz)) rfl hl.1 (Nat.le_of_ble_eq_true rfl) dLa_card_6 ⟨Nat.le_refl _, Nat.le_refl _⟩ hS (fun _ h => .inl h) htab (⟨by decide, by decide, by decide, "java/lang/IllegalArgumentException", hts _ (List.mem_cons_of_mem _ wm2_3), .inr ⟨nc_mv (State.WarmedH.refl s) (hn ("java/lang/IllegalStateException", "java/lang/IllegalArgumentException") (by decide)), ⟨by decide, by decide, by decide, "java/lang/IllegalStateException", hts _ (List.mem_cons_of_mem _ wm2_136), .inl ⟨exA_at hz.2.2 _ (by decide +kernel), rfl⟩⟩⟩⟩) (hts _ (List.mem_cons_of_mem _ wm2_147)) (fun ex H locs hP hk hS => ?_)
      have hO := hO.kept (hk o hO.lt hoq)
      refine lv_astore (lv' := [(5, .ref (ex)), (0, .ref (q 0)), (1, .long (v)), (3, .int (bb (b))), (4, .ref (o))]) hx hb dLa_card_18 hl (by decide) rfl (fun ls hl => ?_)
      refine lv_iconst (v := 2) hx hb dLa_card_20 (by decide) ?_
      exact W.iret hx hb hr (fun t ht _ => ⟨by rw [hR]; first | done | rfl, by rw [hR, ht]; dsimp only; exact hP, by rw [hR, ht]; dsimp only; exact hO, hS.F ht⟩) hS.2.2 dLa_card_21
    · have hR := hR.trans (if_neg g2)
      refine cl_w2 (W.runV (As := [.long (v), .int (bb (b))]) (rest := [.int (0), .ref (o)]) ⟨hx, hb, hml, hown, hts⟩ (kDM_card l D q cI cJ cZ hq z0 v b g1 g2 (hi g2)) (cwV 2 hts (gV wm2_137 wm2_138 wm2_139 wm1_1 wm2_140) rfl rfl rfl (by decide +kernel) ⟨Nat.le_of_ble_eq_true rfl, Nat.le_of_ble_eq_true rfl⟩) (c_preV0 hK hP) rfl rfl hl.1 rfl (lv_room (Nat.le_of_ble_eq_true rfl)) dLa_card_6 ⟨Nat.zero_le _, Nat.zero_le _⟩) hS (fun _ h => .inl h) (fun _ h => .inl h) (fun H locs hP hk hS => ?_)
      have hO := hO.kept (hk o hO.lt hoq)
      refine w_pad (cells' := 1) (slots' := 6) (Nat.zero_le _) (Nat.zero_le _) ?_
      refine lv_i2l hx hb dLa_card_9 rfl ?_
      refine ow_last (x := (((fDM_card z0 v b).1).toInt64)) hx hb hK hO hS (.inr rfl) dLa_card_10 (fun H locs hO hk hS => ?_)
      have hP := c_up2 hP (fun a ha => hk a (fun h => hoq (h ▸ ha)))
      refine lv_goto hx hb dLa_card_11 rfl ?_
      refine lv_iconst (v := 0) hx hb dLa_card_22 (by decide) ?_
      exact W.iret hx hb hr (fun t ht _ => ⟨by rw [hR]; first | done | rfl, by rw [hR, ht]; dsimp only; exact hP, by rw [hR, ht]; dsimp only; exact hO, hS.F ht⟩) hS.2.2 dLa_card_23
  · have hR := hR.trans (if_neg g1)
    refine ct_row (hpc := 14) (E := "java/lang/IllegalArgumentException") (As := [.long (v), .int (bb (b))]) (rest := [.int (0), .ref (o)]) (B := hA q o) ⟨hx, hb, hml, hown, hts⟩ (kDM_card_t7 l D q cI cJ cZ hq hfl z0 v b g1) (cwV 2 hts (gV wm2_137 wm2_138 wm2_139 wm1_1 wm2_140) rfl rfl rfl (by decide +kernel) ⟨Nat.le_of_ble_eq_true rfl, Nat.le_of_ble_eq_true rfl⟩) (c_preT hK hP (xZ_at hz)) rfl hl.1 (Nat.le_of_ble_eq_true rfl) dLa_card_6 ⟨Nat.le_refl _, Nat.le_refl _⟩ hS (fun _ h => .inl h) htab (⟨by decide, by decide, by decide, "java/lang/IllegalArgumentException", hts _ (List.mem_cons_of_mem _ wm2_3), .inl ⟨exA_at hz.2.2 _ (by decide +kernel), rfl⟩⟩) (hts _ (List.mem_cons_of_mem _ wm2_85)) (fun ex H locs hP hk hS => ?_)
    have hO := hO.kept (hk o hO.lt hoq)
    refine lv_astore (lv' := [(5, .ref (ex)), (0, .ref (q 0)), (1, .long (v)), (3, .int (bb (b))), (4, .ref (o))]) hx hb dLa_card_14 hl (by decide) rfl (fun ls hl => ?_)
    refine lv_iconst (v := 1) hx hb dLa_card_16 (by decide) ?_
    exact W.iret hx hb hr (fun t ht _ => ⟨by rw [hR]; first | done | rfl, by rw [hR, ht]; dsimp only; exact hP, by rw [hR, ht]; dsimp only; exact hO, hS.F ht⟩) hS.2.2 dLa_card_17
abbrev ccLa_line : ByteArray := method_6_code
def yLa_line : MethodName := ⟨RLa, "line", "(LDrumMachine;IIII[J)I"⟩
abbrev wsLa_line : List Cond := Cond.codeWith yLa_line ccLa_line 7 (some .int) [(0, 14, 17, 15), (0, 14, 21, 25)] :: wsA
theorem cwLa_line : Cond.codeWith yLa_line ccLa_line 7 (some .int) [(0, 14, 17, 15), (0, 14, 21, 25)] ∈ wsA := memA2 (i := 172) rfl rfl
theorem dLa_line_0 : decode ccLa_line 0 = .ok (.aload 5, 2) := by decide +kernel
theorem dLa_line_2 : decode ccLa_line 2 = .ok (.iconst 0, 1) := by decide +kernel
theorem dLa_line_3 : decode ccLa_line 3 = .ok (.aload_n 0, 1) := by decide +kernel
theorem dLa_line_4 : decode ccLa_line 4 = .ok (.iload_n 1, 1) := by decide +kernel
theorem dLa_line_5 : decode ccLa_line 5 = .ok (.iload_n 2, 1) := by decide +kernel
theorem dLa_line_6 : decode ccLa_line 6 = .ok (.iload_n 3, 1) := by decide +kernel
theorem dLa_line_7 : decode ccLa_line 7 = .ok (.iload 4, 2) := by decide +kernel
theorem dLa_line_9 : decode ccLa_line 9 = .ok (.invokevirtual 27, 3) := by decide +kernel
theorem dLa_line_12 : decode ccLa_line 12 = .ok (.i2l, 1) := by decide +kernel
theorem dLa_line_13 : decode ccLa_line 13 = .ok (.lastore, 1) := by decide +kernel
theorem dLa_line_14 : decode ccLa_line 14 = .ok (.goto 11, 3) := by decide +kernel
theorem dLa_line_17 : decode ccLa_line 17 = .ok (.astore 6, 2) := by decide +kernel
theorem dLa_line_19 : decode ccLa_line 19 = .ok (.iconst 1, 1) := by decide +kernel
theorem dLa_line_20 : decode ccLa_line 20 = .ok (.ireturn, 1) := by decide +kernel
theorem dLa_line_21 : decode ccLa_line 21 = .ok (.astore 6, 2) := by decide +kernel
theorem dLa_line_23 : decode ccLa_line 23 = .ok (.iconst 2, 1) := by decide +kernel
theorem dLa_line_24 : decode ccLa_line 24 = .ok (.ireturn, 1) := by decide +kernel
theorem dLa_line_25 : decode ccLa_line 25 = .ok (.iconst 0, 1) := by decide +kernel
theorem dLa_line_26 : decode ccLa_line 26 = .ok (.ireturn, 1) := by decide +kernel
def gLa_line (z0 : SC) (f0 : Nat → Int64) (a : Int32) (o1 : Int32) (d : Int32) (x : Int32) : Int32 × SC × (Nat → Int64) :=
  (if fOp_exists o1 = true then (if fAs_isPart a = true ∧ fAs_isDataPart o1 d = true ∧ fAs_isPart x = true then (if fAs_isFull z0 = true then (2, z0, f0) else (0, (fDM_line z0 a o1 d x).2, vp_updL f0 0 (((fDM_line z0 a o1 d x).1).toInt64))) else (1, z0, f0)) else (1, z0, f0))
set_option maxHeartbeats 4000000 in
set_option maxRecDepth 100000 in
theorem kLa_line (l : Launch) (D : va_G) (q : Nat → Nat) (cI cJ cZ : ClassId) (hq : c_inj q) (hfl : l.flags = pinnedFlags ++ [noTraceFlag]) (o : Nat) (hoq : ¬ c_qs q o) (z0 : SC) (f0 : Nat → Int64) (a : Int32) (o1 : Int32) (d : Int32) (x : Int32) (hi : ¬ fAs_isFull z0 = true → vp_in (c_acount z0) 40) : Met l yLa_line wsLa_line { frames := 7, cells := 1, slots := 6, locals := 106 } (va_Pc [.ref (q 0), .int (a), .int (o1), .int (d), .int (x), .ref (o)] (hC D q cI cJ cZ o z0 f0)) (hQ D q cI cJ cZ o (gLa_line z0 f0 a o1 d x)) 1 6 (hA q o) := by
  refine va_MetW (cc := ccLa_line) (maxL := 7) (ret := some .int) (hh := [(0, 14, 17, 15), (0, 14, 21, 25)]) (by decide +kernel) rfl ?_
  intro p e s m args below meth c s₁ B hml hv
  obtain ⟨rfl, ⟨hP, hK⟩, hz, hn, hO⟩ := hv
  have hx := B.exec
  have hb := B.bytes
  have hr := B.returns
  have hts := atoms_spec (ws := wsLa_line) B.pre
  have hown : s.vm.findClass RLa = some m.cls := findClass_of_methodNamed B.named
  have hlocks := B.notSynchronized
  have htab := hd_tab B (hts _ List.mem_cons_self)
  have hS : va_S (hA q o) s.heap s.heap [] := va_S.rf
  have hl := lv_entry ([.ref (q 0), .int (a), .int (o1), .int (d), .int (x), .ref (o)]) (n := 7) (Nat.le_of_ble_eq_true rfl)
  rw [lg_entry_eq]
  generalize (lg_sl ([.ref (q 0), .int (a), .int (o1), .int (d), .int (x), .ref (o)]) ++ List.replicate (7 - (lg_sl ([.ref (q 0), .int (a), .int (o1), .int (d), .int (x), .ref (o)])).length) Slot.unset).toArray = ls at hl ⊢
  have hl : lv_has ls 7 [(0, .ref (q 0)), (1, .int (a)), (2, .int (o1)), (3, .int (d)), (4, .int (x)), (5, .ref (o))] := hl
  have hR := gLa_line.eq_1 z0 f0 a o1 d x
  refine lv_aload hx hb dLa_line_0 (lv_at hl 5 rfl) ?_
  refine lv_iconst (v := 0) hx hb dLa_line_2 (by decide) ?_
  refine lv_aload_n hx hb dLa_line_3 rfl (lv_at hl 0 rfl) ?_
  refine lv_iload_n hx hb dLa_line_4 rfl (lv_at hl 1 rfl) ?_
  refine lv_iload_n hx hb dLa_line_5 rfl (lv_at hl 2 rfl) ?_
  refine lv_iload_n hx hb dLa_line_6 rfl (lv_at hl 3 rfl) ?_
  refine lv_iload hx hb dLa_line_7 (lv_at hl 4 rfl) ?_
  by_cases g1 : fOp_exists o1 = true
  · have hR := hR.trans (if_pos g1)
    by_cases g2 : fAs_isPart a = true ∧ fAs_isDataPart o1 d = true ∧ fAs_isPart x = true
    · have hR := hR.trans (if_pos g2)
      by_cases g3 : fAs_isFull z0 = true
      · have hR := hR.trans (if_pos g3)
        refine ct_row (hpc := 21) (E := "java/lang/IllegalStateException") (As := [.int (a), .int (o1), .int (d), .int (x)]) (rest := [.int (0), .ref (o)]) (B := hA q o) ⟨hx, hb, hml, hown, hts⟩ (kDM_line_t60 l D q cI cJ cZ hq hfl z0 a o1 d x g1 g2.1 g2.2.1 g2.2.2 g3) (cwV 4 hts (gV wm2_173 wm2_174 wm2_175 wm1_1 wm2_176) rfl rfl rfl (by decide +kernel) ⟨Nat.le_of_ble_eq_true rfl, Nat.le_of_ble_eq_true rfl⟩) (c_preT hK hP (xZ_at hz)) rfl hl.1 (Nat.le_of_ble_eq_true rfl) dLa_line_9 ⟨Nat.le_refl _, Nat.le_refl _⟩ hS (fun _ h => .inl h) htab (⟨by decide, by decide, by decide, "java/lang/IllegalArgumentException", hts _ (List.mem_cons_of_mem _ wm2_3), .inr ⟨nc_mv (State.WarmedH.refl s) (hn ("java/lang/IllegalStateException", "java/lang/IllegalArgumentException") (by decide)), ⟨by decide, by decide, by decide, "java/lang/IllegalStateException", hts _ (List.mem_cons_of_mem _ wm2_136), .inl ⟨exA_at hz.2.2 _ (by decide +kernel), rfl⟩⟩⟩⟩) (hts _ (List.mem_cons_of_mem _ wm2_147)) (fun ex H locs hP hk hS => ?_)
        have hO := hO.kept (hk o hO.lt hoq)
        refine lv_astore (lv' := [(6, .ref (ex)), (0, .ref (q 0)), (1, .int (a)), (2, .int (o1)), (3, .int (d)), (4, .int (x)), (5, .ref (o))]) hx hb dLa_line_21 hl (by decide) rfl (fun ls hl => ?_)
        refine lv_iconst (v := 2) hx hb dLa_line_23 (by decide) ?_
        exact W.iret hx hb hr (fun t ht _ => ⟨by rw [hR]; first | done | rfl, by rw [hR, ht]; dsimp only; exact hP, by rw [hR, ht]; dsimp only; exact hO, hS.F ht⟩) hS.2.2 dLa_line_24
      · have hR := hR.trans (if_neg g3)
        refine cl_w2 (W.runV (As := [.int (a), .int (o1), .int (d), .int (x)]) (rest := [.int (0), .ref (o)]) ⟨hx, hb, hml, hown, hts⟩ (kDM_line l D q cI cJ cZ hq z0 a o1 d x g1 g2.1 g2.2.1 g2.2.2 g3 (hi g3)) (cwV 4 hts (gV wm2_173 wm2_174 wm2_175 wm1_1 wm2_176) rfl rfl rfl (by decide +kernel) ⟨Nat.le_of_ble_eq_true rfl, Nat.le_of_ble_eq_true rfl⟩) (c_preV0 hK hP) rfl rfl hl.1 rfl (lv_room (Nat.le_of_ble_eq_true rfl)) dLa_line_9 ⟨Nat.zero_le _, Nat.zero_le _⟩) hS (fun _ h => .inl h) (fun _ h => .inl h) (fun H locs hP hk hS => ?_)
        have hO := hO.kept (hk o hO.lt hoq)
        refine w_pad (cells' := 1) (slots' := 6) (Nat.zero_le _) (Nat.zero_le _) ?_
        refine lv_i2l hx hb dLa_line_12 rfl ?_
        refine ow_last (x := (((fDM_line z0 a o1 d x).1).toInt64)) hx hb hK hO hS (.inr rfl) dLa_line_13 (fun H locs hO hk hS => ?_)
        have hP := c_up2 hP (fun a ha => hk a (fun h => hoq (h ▸ ha)))
        refine lv_goto hx hb dLa_line_14 rfl ?_
        refine lv_iconst (v := 0) hx hb dLa_line_25 (by decide) ?_
        exact W.iret hx hb hr (fun t ht _ => ⟨by rw [hR]; first | done | rfl, by rw [hR, ht]; dsimp only; exact hP, by rw [hR, ht]; dsimp only; exact hO, hS.F ht⟩) hS.2.2 dLa_line_26
    · have hR := hR.trans (if_neg g2)
      refine ct_row (hpc := 17) (E := "java/lang/IllegalArgumentException") (As := [.int (a), .int (o1), .int (d), .int (x)]) (rest := [.int (0), .ref (o)]) (B := hA q o) ⟨hx, hb, hml, hown, hts⟩ (kDM_line_t40 l D q cI cJ cZ hq hfl z0 a o1 d x g1 g2) (cwV 4 hts (gV wm2_173 wm2_174 wm2_175 wm1_1 wm2_176) rfl rfl rfl (by decide +kernel) ⟨Nat.le_of_ble_eq_true rfl, Nat.le_of_ble_eq_true rfl⟩) (c_preT hK hP (xZ_at hz)) rfl hl.1 (Nat.le_of_ble_eq_true rfl) dLa_line_9 ⟨Nat.le_refl _, Nat.le_refl _⟩ hS (fun _ h => .inl h) htab (⟨by decide, by decide, by decide, "java/lang/IllegalArgumentException", hts _ (List.mem_cons_of_mem _ wm2_3), .inl ⟨exA_at hz.2.2 _ (by decide +kernel), rfl⟩⟩) (hts _ (List.mem_cons_of_mem _ wm2_85)) (fun ex H locs hP hk hS => ?_)
      have hO := hO.kept (hk o hO.lt hoq)
      refine lv_astore (lv' := [(6, .ref (ex)), (0, .ref (q 0)), (1, .int (a)), (2, .int (o1)), (3, .int (d)), (4, .int (x)), (5, .ref (o))]) hx hb dLa_line_17 hl (by decide) rfl (fun ls hl => ?_)
      refine lv_iconst (v := 1) hx hb dLa_line_19 (by decide) ?_
      exact W.iret hx hb hr (fun t ht _ => ⟨by rw [hR]; first | done | rfl, by rw [hR, ht]; dsimp only; exact hP, by rw [hR, ht]; dsimp only; exact hO, hS.F ht⟩) hS.2.2 dLa_line_20
  · have hR := hR.trans (if_neg g1)
    refine ct_row (hpc := 17) (E := "java/lang/IllegalArgumentException") (As := [.int (a), .int (o1), .int (d), .int (x)]) (rest := [.int (0), .ref (o)]) (B := hA q o) ⟨hx, hb, hml, hown, hts⟩ (kDM_line_t7 l D q cI cJ cZ hq hfl z0 a o1 d x g1) (cwV 4 hts (gV wm2_173 wm2_174 wm2_175 wm1_1 wm2_176) rfl rfl rfl (by decide +kernel) ⟨Nat.le_of_ble_eq_true rfl, Nat.le_of_ble_eq_true rfl⟩) (c_preT hK hP (xZ_at hz)) rfl hl.1 (Nat.le_of_ble_eq_true rfl) dLa_line_9 ⟨Nat.le_refl _, Nat.le_refl _⟩ hS (fun _ h => .inl h) htab (⟨by decide, by decide, by decide, "java/lang/IllegalArgumentException", hts _ (List.mem_cons_of_mem _ wm2_3), .inl ⟨exA_at hz.2.2 _ (by decide +kernel), rfl⟩⟩) (hts _ (List.mem_cons_of_mem _ wm2_85)) (fun ex H locs hP hk hS => ?_)
    have hO := hO.kept (hk o hO.lt hoq)
    refine lv_astore (lv' := [(6, .ref (ex)), (0, .ref (q 0)), (1, .int (a)), (2, .int (o1)), (3, .int (d)), (4, .int (x)), (5, .ref (o))]) hx hb dLa_line_17 hl (by decide) rfl (fun ls hl => ?_)
    refine lv_iconst (v := 1) hx hb dLa_line_19 (by decide) ?_
    exact W.iret hx hb hr (fun t ht _ => ⟨by rw [hR]; first | done | rfl, by rw [hR, ht]; dsimp only; exact hP, by rw [hR, ht]; dsimp only; exact hO, hS.F ht⟩) hS.2.2 dLa_line_20
abbrev ccLa_reserve : ByteArray := method_7_code
def yLa_reserve : MethodName := ⟨RLa, "reserve", "(LDrumMachine;I)I"⟩
abbrev wsLa_reserve : List Cond := Cond.codeWith yLa_reserve ccLa_reserve 3 (some .int) [(0, 5, 8, 13)] :: wsA
theorem cwLa_reserve : Cond.codeWith yLa_reserve ccLa_reserve 3 (some .int) [(0, 5, 8, 13)] ∈ wsA := memA2 (i := 213) rfl rfl
theorem dLa_reserve_0 : decode ccLa_reserve 0 = .ok (.aload_n 0, 1) := by decide +kernel
theorem dLa_reserve_1 : decode ccLa_reserve 1 = .ok (.iload_n 1, 1) := by decide +kernel
theorem dLa_reserve_2 : decode ccLa_reserve 2 = .ok (.invokevirtual 31, 3) := by decide +kernel
theorem dLa_reserve_5 : decode ccLa_reserve 5 = .ok (.goto 6, 3) := by decide +kernel
theorem dLa_reserve_8 : decode ccLa_reserve 8 = .ok (.astore_n 2, 1) := by decide +kernel
theorem dLa_reserve_9 : decode ccLa_reserve 9 = .ok (.iconst 1, 1) := by decide +kernel
theorem dLa_reserve_10 : decode ccLa_reserve 10 = .ok (.ireturn, 1) := by decide +kernel
theorem dLa_reserve_11 : decode ccLa_reserve 11 = .ok (.iconst 0, 1) := by decide +kernel
theorem dLa_reserve_12 : decode ccLa_reserve 12 = .ok (.ireturn, 1) := by decide +kernel
def gLa_reserve (z0 : SC) (f0 : Nat → Int64) (a : Int32) : Int32 × SC × (Nat → Int64) :=
  (if fDr_hasAddress a = true then (0, fDM_reserve z0 a, f0) else (1, z0, f0))
set_option maxHeartbeats 4000000 in
set_option maxRecDepth 100000 in
theorem kLa_reserve (l : Launch) (D : va_G) (q : Nat → Nat) (cI cJ cZ : ClassId) (hq : c_inj q) (hfl : l.flags = pinnedFlags ++ [noTraceFlag]) (o : Nat) (hoq : ¬ c_qs q o) (z0 : SC) (f0 : Nat → Int64) (a : Int32)  : Met l yLa_reserve wsLa_reserve { frames := 7, cells := 1, slots := 6, locals := 103 } (va_Pc [.ref (q 0), .int (a)] (hC D q cI cJ cZ o z0 f0)) (hQ D q cI cJ cZ o (gLa_reserve z0 f0 a)) 1 6 (hA q o) := by
  refine va_MetW (cc := ccLa_reserve) (maxL := 3) (ret := some .int) (hh := [(0, 5, 8, 13)]) (by decide +kernel) rfl ?_
  intro p e s m args below meth c s₁ B hml hv
  obtain ⟨rfl, ⟨hP, hK⟩, hz, hn, hO⟩ := hv
  have hx := B.exec
  have hb := B.bytes
  have hr := B.returns
  have hts := atoms_spec (ws := wsLa_reserve) B.pre
  have hown : s.vm.findClass RLa = some m.cls := findClass_of_methodNamed B.named
  have hlocks := B.notSynchronized
  have htab := hd_tab B (hts _ List.mem_cons_self)
  have hS : va_S (hA q o) s.heap s.heap [] := va_S.rf
  have hl := lv_entry ([.ref (q 0), .int (a)]) (n := 3) (Nat.le_of_ble_eq_true rfl)
  rw [lg_entry_eq]
  generalize (lg_sl ([.ref (q 0), .int (a)]) ++ List.replicate (3 - (lg_sl ([.ref (q 0), .int (a)])).length) Slot.unset).toArray = ls at hl ⊢
  have hl : lv_has ls 3 [(0, .ref (q 0)), (1, .int (a))] := hl
  have hR := gLa_reserve.eq_1 z0 f0 a
  refine lv_aload_n hx hb dLa_reserve_0 rfl (lv_at hl 0 rfl) ?_
  refine lv_iload_n hx hb dLa_reserve_1 rfl (lv_at hl 1 rfl) ?_
  by_cases g1 : fDr_hasAddress a = true
  · have hR := hR.trans (if_pos g1)
    refine cl_w2 (W.runV (As := [.int (a)]) (rest := []) ⟨hx, hb, hml, hown, hts⟩ (kDM_reserve l D q cI cJ cZ hq z0 a g1) (cwV 1 hts (gV wm2_214 wm2_215 wm2_216 wm1_1 wm2_217) rfl rfl rfl (by decide +kernel) ⟨Nat.le_of_ble_eq_true rfl, Nat.le_of_ble_eq_true rfl⟩) (c_preV0 hK hP) rfl rfl hl.1 rfl (lv_room (Nat.le_of_ble_eq_true rfl)) dLa_reserve_2 ⟨Nat.zero_le _, Nat.zero_le _⟩) hS (fun _ h => .inl h) (fun _ h => .inl h) (fun H locs hP hk hS => ?_)
    have hO := hO.kept (hk o hO.lt hoq)
    refine w_pad (cells' := 1) (slots' := 6) (Nat.zero_le _) (Nat.zero_le _) ?_
    refine lv_goto hx hb dLa_reserve_5 rfl ?_
    refine lv_iconst (v := 0) hx hb dLa_reserve_11 (by decide) ?_
    exact W.iret hx hb hr (fun t ht _ => ⟨by rw [hR]; first | done | rfl, by rw [hR, ht]; dsimp only; exact hP, by rw [hR, ht]; dsimp only; exact hO, hS.F ht⟩) hS.2.2 dLa_reserve_12
  · have hR := hR.trans (if_neg g1)
    refine ct_row (hpc := 8) (E := "java/lang/IndexOutOfBoundsException") (As := [.int (a)]) (rest := []) (B := hA q o) ⟨hx, hb, hml, hown, hts⟩ (kDM_reserve_t7 l D q cI cJ cZ hq hfl z0 a g1) (cwV 1 hts (gV wm2_214 wm2_215 wm2_216 wm1_1 wm2_217) rfl rfl rfl (by decide +kernel) ⟨Nat.le_of_ble_eq_true rfl, Nat.le_of_ble_eq_true rfl⟩) (c_preT hK hP (xZ_at hz)) rfl hl.1 (Nat.le_of_ble_eq_true rfl) dLa_reserve_2 ⟨Nat.le_refl _, Nat.le_refl _⟩ hS (fun _ h => .inl h) htab (⟨by decide, by decide, by decide, "java/lang/IndexOutOfBoundsException", hts _ (List.mem_cons_of_mem _ wm2_2), .inl ⟨exA_at hz.2.2 _ (by decide +kernel), rfl⟩⟩) (hts _ (List.mem_cons_of_mem _ wm2_12)) (fun ex H locs hP hk hS => ?_)
    have hO := hO.kept (hk o hO.lt hoq)
    refine lv_astore_n (lv' := [(2, .ref (ex)), (0, .ref (q 0)), (1, .int (a))]) hx hb dLa_reserve_8 rfl hl (by decide) rfl (fun ls hl => ?_)
    refine lv_iconst (v := 1) hx hb dLa_reserve_9 (by decide) ?_
    exact W.iret hx hb hr (fun t ht _ => ⟨by rw [hR]; first | done | rfl, by rw [hR, ht]; dsimp only; exact hP, by rw [hR, ht]; dsimp only; exact hO, hS.F ht⟩) hS.2.2 dLa_reserve_10
abbrev ccLa_assemble : ByteArray := method_8_code
def yLa_assemble : MethodName := ⟨RLa, "assemble", "(LDrumMachine;Z[J)I"⟩
abbrev wsLa_assemble : List Cond := Cond.codeWith yLa_assemble ccLa_assemble 4 (some .int) [(0, 9, 12, 25), (0, 9, 15, 39)] :: wsA
theorem cwLa_assemble : Cond.codeWith yLa_assemble ccLa_assemble 4 (some .int) [(0, 9, 12, 25), (0, 9, 15, 39)] ∈ wsA := memA2 (i := 224) rfl rfl
theorem dLa_assemble_0 : decode ccLa_assemble 0 = .ok (.aload_n 2, 1) := by decide +kernel
theorem dLa_assemble_1 : decode ccLa_assemble 1 = .ok (.iconst 0, 1) := by decide +kernel
theorem dLa_assemble_2 : decode ccLa_assemble 2 = .ok (.aload_n 0, 1) := by decide +kernel
theorem dLa_assemble_3 : decode ccLa_assemble 3 = .ok (.iload_n 1, 1) := by decide +kernel
theorem dLa_assemble_4 : decode ccLa_assemble 4 = .ok (.invokevirtual 35, 3) := by decide +kernel
theorem dLa_assemble_7 : decode ccLa_assemble 7 = .ok (.i2l, 1) := by decide +kernel
theorem dLa_assemble_8 : decode ccLa_assemble 8 = .ok (.lastore, 1) := by decide +kernel
theorem dLa_assemble_9 : decode ccLa_assemble 9 = .ok (.goto 9, 3) := by decide +kernel
theorem dLa_assemble_12 : decode ccLa_assemble 12 = .ok (.astore_n 3, 1) := by decide +kernel
theorem dLa_assemble_13 : decode ccLa_assemble 13 = .ok (.iconst 1, 1) := by decide +kernel
theorem dLa_assemble_14 : decode ccLa_assemble 14 = .ok (.ireturn, 1) := by decide +kernel
theorem dLa_assemble_15 : decode ccLa_assemble 15 = .ok (.astore_n 3, 1) := by decide +kernel
theorem dLa_assemble_16 : decode ccLa_assemble 16 = .ok (.iconst 2, 1) := by decide +kernel
theorem dLa_assemble_17 : decode ccLa_assemble 17 = .ok (.ireturn, 1) := by decide +kernel
theorem dLa_assemble_18 : decode ccLa_assemble 18 = .ok (.iconst 0, 1) := by decide +kernel
theorem dLa_assemble_19 : decode ccLa_assemble 19 = .ok (.ireturn, 1) := by decide +kernel
def gLa_assemble (z0 : SC) (f0 : Nat → Int64) (b : Bool) : Int32 × SC × (Nat → Int64) :=
  (if fAs_isEmpty z0 = true then (1, z0, f0) else (if (fAs_placeAll z0 b).1 = true then (0, (fDM_assemble z0 b).2, vp_updL f0 0 (((fDM_assemble z0 b).1).toInt64)) else (2, (fAs_placeAll z0 b).2, f0)))
set_option maxHeartbeats 4000000 in
set_option maxRecDepth 100000 in
theorem kLa_assemble (l : Launch) (D : va_G) (q : Nat → Nat) (cI cJ cZ : ClassId) (hq : c_inj q) (hfl : l.flags = pinnedFlags ++ [noTraceFlag]) (o : Nat) (hoq : ¬ c_qs q o) (z0 : SC) (f0 : Nat → Int64) (b : Bool) (hA0 : c_A z0) (hA2 : (fAs_placeAll z0 b).1 = true → c_A (fAs_placeAll z0 b).2) (hw : (fAs_placeAll z0 b).1 = true → ∀ i, i < 40 → (nI i) < c_acount (fAs_placeAll z0 b).2 → 0 ≤ (c_locs (fAs_placeAll z0 b).2 i).toInt) : Met l yLa_assemble wsLa_assemble { frames := 8, cells := 1, slots := 6, locals := 176 } (va_Pc [.ref (q 0), .int (bb (b)), .ref (o)] (hC D q cI cJ cZ o z0 f0)) (hQ D q cI cJ cZ o (gLa_assemble z0 f0 b)) 1 6 (hA q o) := by
  refine va_MetW (cc := ccLa_assemble) (maxL := 4) (ret := some .int) (hh := [(0, 9, 12, 25), (0, 9, 15, 39)]) (by decide +kernel) rfl ?_
  intro p e s m args below meth c s₁ B hml hv
  obtain ⟨rfl, ⟨hP, hK⟩, hz, hn, hO⟩ := hv
  have hx := B.exec
  have hb := B.bytes
  have hr := B.returns
  have hts := atoms_spec (ws := wsLa_assemble) B.pre
  have hown : s.vm.findClass RLa = some m.cls := findClass_of_methodNamed B.named
  have hlocks := B.notSynchronized
  have htab := hd_tab B (hts _ List.mem_cons_self)
  have hS : va_S (hA q o) s.heap s.heap [] := va_S.rf
  have hl := lv_entry ([.ref (q 0), .int (bb (b)), .ref (o)]) (n := 4) (Nat.le_of_ble_eq_true rfl)
  rw [lg_entry_eq]
  generalize (lg_sl ([.ref (q 0), .int (bb (b)), .ref (o)]) ++ List.replicate (4 - (lg_sl ([.ref (q 0), .int (bb (b)), .ref (o)])).length) Slot.unset).toArray = ls at hl ⊢
  have hl : lv_has ls 4 [(0, .ref (q 0)), (1, .int (bb (b))), (2, .ref (o))] := hl
  have hR := gLa_assemble.eq_1 z0 f0 b
  refine lv_aload_n hx hb dLa_assemble_0 rfl (lv_at hl 2 rfl) ?_
  refine lv_iconst (v := 0) hx hb dLa_assemble_1 (by decide) ?_
  refine lv_aload_n hx hb dLa_assemble_2 rfl (lv_at hl 0 rfl) ?_
  refine lv_iload_n hx hb dLa_assemble_3 rfl (lv_at hl 1 rfl) ?_
  by_cases g1 : fAs_isEmpty z0 = true
  · have hR := hR.trans (if_pos g1)
    refine ct_row (hpc := 12) (E := "java/lang/IllegalStateException") (As := [.int (bb (b))]) (rest := [.int (0), .ref (o)]) (B := hA q o) ⟨hx, hb, hml, hown, hts⟩ (kDM_assemble_t10 l D q cI cJ cZ hq hfl z0 b g1) (cwV 1 hts (gV wm2_226 wm2_227 wm2_228 wm1_1 wm2_229) rfl rfl rfl (by decide +kernel) ⟨Nat.le_of_ble_eq_true rfl, Nat.le_of_ble_eq_true rfl⟩) (c_preT hK hP (xZ_at hz)) rfl hl.1 (Nat.le_of_ble_eq_true rfl) dLa_assemble_4 ⟨Nat.le_refl _, Nat.le_refl _⟩ hS (fun _ h => .inl h) htab (⟨by decide, by decide, by decide, "java/lang/IllegalStateException", hts _ (List.mem_cons_of_mem _ wm2_136), .inl ⟨exA_at hz.2.2 _ (by decide +kernel), rfl⟩⟩) (hts _ (List.mem_cons_of_mem _ wm2_147)) (fun ex H locs hP hk hS => ?_)
    have hO := hO.kept (hk o hO.lt hoq)
    refine lv_astore_n (lv' := [(3, .ref (ex)), (0, .ref (q 0)), (1, .int (bb (b))), (2, .ref (o))]) hx hb dLa_assemble_12 rfl hl (by decide) rfl (fun ls hl => ?_)
    refine lv_iconst (v := 1) hx hb dLa_assemble_13 (by decide) ?_
    exact W.iret hx hb hr (fun t ht _ => ⟨by rw [hR]; first | done | rfl, by rw [hR, ht]; dsimp only; exact hP, by rw [hR, ht]; dsimp only; exact hO, hS.F ht⟩) hS.2.2 dLa_assemble_14
  · have hR := hR.trans (if_neg g1)
    by_cases g2 : (fAs_placeAll z0 b).1 = true
    · have hR := hR.trans (if_pos g2)
      refine cl_w2 (W.runV (As := [.int (bb (b))]) (rest := [.int (0), .ref (o)]) ⟨hx, hb, hml, hown, hts⟩ (kDM_assemble l D q cI cJ cZ hq z0 b g1 hA0 g2 (hA2 g2) (hw g2)) (cwV 1 hts (gV wm2_226 wm2_227 wm2_228 wm1_1 wm2_229) rfl rfl rfl (by decide +kernel) ⟨Nat.le_of_ble_eq_true rfl, Nat.le_of_ble_eq_true rfl⟩) (c_preV0 hK hP) rfl rfl hl.1 rfl (lv_room (Nat.le_of_ble_eq_true rfl)) dLa_assemble_4 ⟨Nat.zero_le _, Nat.zero_le _⟩) hS (fun _ h => .inl h) (fun _ h => .inl h) (fun H locs hP hk hS => ?_)
      have hO := hO.kept (hk o hO.lt hoq)
      refine w_pad (cells' := 1) (slots' := 6) (Nat.zero_le _) (Nat.zero_le _) ?_
      refine lv_i2l hx hb dLa_assemble_7 rfl ?_
      refine ow_last (x := (((fDM_assemble z0 b).1).toInt64)) hx hb hK hO hS (.inr rfl) dLa_assemble_8 (fun H locs hO hk hS => ?_)
      have hP := c_up2 hP (fun a ha => hk a (fun h => hoq (h ▸ ha)))
      refine lv_goto hx hb dLa_assemble_9 rfl ?_
      refine lv_iconst (v := 0) hx hb dLa_assemble_18 (by decide) ?_
      exact W.iret hx hb hr (fun t ht _ => ⟨by rw [hR]; first | done | rfl, by rw [hR, ht]; dsimp only; exact hP, by rw [hR, ht]; dsimp only; exact hO, hS.F ht⟩) hS.2.2 dLa_assemble_19
    · have hR := hR.trans (if_neg g2)
      refine ct_row (hpc := 15) (E := "java/lang/UnsupportedOperationException") (As := [.int (bb (b))]) (rest := [.int (0), .ref (o)]) (B := hA q o) ⟨hx, hb, hml, hown, hts⟩ (kDM_assemble_t31 l D q cI cJ cZ hq hfl z0 b g1 hA0 g2) (cwV 1 hts (gV wm2_226 wm2_227 wm2_228 wm1_1 wm2_229) rfl rfl rfl (by decide +kernel) ⟨Nat.le_of_ble_eq_true rfl, Nat.le_of_ble_eq_true rfl⟩) (c_preT hK hP (xZ_at hz)) rfl hl.1 (Nat.le_of_ble_eq_true rfl) dLa_assemble_4 ⟨Nat.le_refl _, Nat.le_refl _⟩ hS (fun _ h => .inl h) htab (⟨by decide, by decide, by decide, "java/lang/IllegalStateException", hts _ (List.mem_cons_of_mem _ wm2_136), .inr ⟨nc_mv (State.WarmedH.refl s) (hn ("java/lang/UnsupportedOperationException", "java/lang/IllegalStateException") (by decide)), ⟨by decide, by decide, by decide, "java/lang/UnsupportedOperationException", hts _ (List.mem_cons_of_mem _ wm2_225), .inl ⟨exA_at hz.2.2 _ (by decide +kernel), rfl⟩⟩⟩⟩) (hts _ (List.mem_cons_of_mem _ wm3_57)) (fun ex H locs hP hk hS => ?_)
      have hO := hO.kept (hk o hO.lt hoq)
      refine lv_astore_n (lv' := [(3, .ref (ex)), (0, .ref (q 0)), (1, .int (bb (b))), (2, .ref (o))]) hx hb dLa_assemble_15 rfl hl (by decide) rfl (fun ls hl => ?_)
      refine lv_iconst (v := 2) hx hb dLa_assemble_16 (by decide) ?_
      exact W.iret hx hb hr (fun t ht _ => ⟨by rw [hR]; first | done | rfl, by rw [hR, ht]; dsimp only; exact hP, by rw [hR, ht]; dsimp only; exact hO, hS.F ht⟩) hS.2.2 dLa_assemble_17
abbrev ccLa_place : ByteArray := method_9_code
def yLa_place : MethodName := ⟨RLa, "place", "(LDrumMachine;I[J)I"⟩
abbrev wsLa_place : List Cond := Cond.codeWith yLa_place ccLa_place 4 (some .int) [(0, 9, 12, 13)] :: wsA
theorem cwLa_place : Cond.codeWith yLa_place ccLa_place 4 (some .int) [(0, 9, 12, 13)] ∈ wsA := memA3 (i := 88) rfl rfl
theorem dLa_place_0 : decode ccLa_place 0 = .ok (.aload_n 2, 1) := by decide +kernel
theorem dLa_place_1 : decode ccLa_place 1 = .ok (.iconst 0, 1) := by decide +kernel
theorem dLa_place_2 : decode ccLa_place 2 = .ok (.aload_n 0, 1) := by decide +kernel
theorem dLa_place_3 : decode ccLa_place 3 = .ok (.iload_n 1, 1) := by decide +kernel
theorem dLa_place_4 : decode ccLa_place 4 = .ok (.invokevirtual 41, 3) := by decide +kernel
theorem dLa_place_7 : decode ccLa_place 7 = .ok (.i2l, 1) := by decide +kernel
theorem dLa_place_8 : decode ccLa_place 8 = .ok (.lastore, 1) := by decide +kernel
theorem dLa_place_9 : decode ccLa_place 9 = .ok (.goto 6, 3) := by decide +kernel
theorem dLa_place_12 : decode ccLa_place 12 = .ok (.astore_n 3, 1) := by decide +kernel
theorem dLa_place_13 : decode ccLa_place 13 = .ok (.iconst 1, 1) := by decide +kernel
theorem dLa_place_14 : decode ccLa_place 14 = .ok (.ireturn, 1) := by decide +kernel
theorem dLa_place_15 : decode ccLa_place 15 = .ok (.iconst 0, 1) := by decide +kernel
theorem dLa_place_16 : decode ccLa_place 16 = .ok (.ireturn, 1) := by decide +kernel
def gLa_place (z0 : SC) (f0 : Nat → Int64) (a : Int32) : Int32 × SC × (Nat → Int64) :=
  (if fAs_hasSymbol a = true then (0, z0, vp_updL f0 0 ((fDM_place z0 a).toInt64)) else (1, z0, f0))
set_option maxHeartbeats 4000000 in
set_option maxRecDepth 100000 in
theorem kLa_place (l : Launch) (D : va_G) (q : Nat → Nat) (cI cJ cZ : ClassId) (hq : c_inj q) (hfl : l.flags = pinnedFlags ++ [noTraceFlag]) (o : Nat) (hoq : ¬ c_qs q o) (z0 : SC) (f0 : Nat → Int64) (a : Int32)  : Met l yLa_place wsLa_place { frames := 7, cells := 1, slots := 6, locals := 103 } (va_Pc [.ref (q 0), .int (a), .ref (o)] (hC D q cI cJ cZ o z0 f0)) (hQ D q cI cJ cZ o (gLa_place z0 f0 a)) 1 6 (hA q o) := by
  refine va_MetW (cc := ccLa_place) (maxL := 4) (ret := some .int) (hh := [(0, 9, 12, 13)]) (by decide +kernel) rfl ?_
  intro p e s m args below meth c s₁ B hml hv
  obtain ⟨rfl, ⟨hP, hK⟩, hz, hn, hO⟩ := hv
  have hx := B.exec
  have hb := B.bytes
  have hr := B.returns
  have hts := atoms_spec (ws := wsLa_place) B.pre
  have hown : s.vm.findClass RLa = some m.cls := findClass_of_methodNamed B.named
  have hlocks := B.notSynchronized
  have htab := hd_tab B (hts _ List.mem_cons_self)
  have hS : va_S (hA q o) s.heap s.heap [] := va_S.rf
  have hl := lv_entry ([.ref (q 0), .int (a), .ref (o)]) (n := 4) (Nat.le_of_ble_eq_true rfl)
  rw [lg_entry_eq]
  generalize (lg_sl ([.ref (q 0), .int (a), .ref (o)]) ++ List.replicate (4 - (lg_sl ([.ref (q 0), .int (a), .ref (o)])).length) Slot.unset).toArray = ls at hl ⊢
  have hl : lv_has ls 4 [(0, .ref (q 0)), (1, .int (a)), (2, .ref (o))] := hl
  have hR := gLa_place.eq_1 z0 f0 a
  refine lv_aload_n hx hb dLa_place_0 rfl (lv_at hl 2 rfl) ?_
  refine lv_iconst (v := 0) hx hb dLa_place_1 (by decide) ?_
  refine lv_aload_n hx hb dLa_place_2 rfl (lv_at hl 0 rfl) ?_
  refine lv_iload_n hx hb dLa_place_3 rfl (lv_at hl 1 rfl) ?_
  by_cases g1 : fAs_hasSymbol a = true
  · have hR := hR.trans (if_pos g1)
    refine cl_rd (W.runV (As := [.int (a)]) (rest := [.int (0), .ref (o)]) ⟨hx, hb, hml, hown, hts⟩ (kDM_place l D q cI cJ cZ hq z0 a g1) (cwV 1 hts (gV wm3_89 wm3_90 wm3_91 wm1_1 wm3_92) rfl rfl rfl (by decide +kernel) ⟨Nat.le_of_ble_eq_true rfl, Nat.le_of_ble_eq_true rfl⟩) (c_preV0 hK hP) rfl rfl hl.1 rfl (lv_room (Nat.le_of_ble_eq_true rfl)) dLa_place_4 ⟨Nat.zero_le _, Nat.zero_le _⟩) ?_
    refine w_pad (cells' := 1) (slots' := 6) (Nat.zero_le _) (Nat.zero_le _) ?_
    refine lv_i2l hx hb dLa_place_7 rfl ?_
    refine ow_last (x := ((fDM_place z0 a).toInt64)) hx hb hK hO hS (.inr rfl) dLa_place_8 (fun H locs hO hk hS => ?_)
    have hP := c_up2 hP (fun a ha => hk a (fun h => hoq (h ▸ ha)))
    refine lv_goto hx hb dLa_place_9 rfl ?_
    refine lv_iconst (v := 0) hx hb dLa_place_15 (by decide) ?_
    exact W.iret hx hb hr (fun t ht _ => ⟨by rw [hR]; first | done | rfl, by rw [hR, ht]; dsimp only; exact hP, by rw [hR, ht]; dsimp only; exact hO, hS.F ht⟩) hS.2.2 dLa_place_16
  · have hR := hR.trans (if_neg g1)
    refine ct_row (hpc := 12) (E := "java/lang/IndexOutOfBoundsException") (As := [.int (a)]) (rest := [.int (0), .ref (o)]) (B := hA q o) ⟨hx, hb, hml, hown, hts⟩ (kDM_place_t7 l D q cI cJ cZ hq hfl z0 a g1) (cwV 1 hts (gV wm3_89 wm3_90 wm3_91 wm1_1 wm3_92) rfl rfl rfl (by decide +kernel) ⟨Nat.le_of_ble_eq_true rfl, Nat.le_of_ble_eq_true rfl⟩) (c_preT hK hP (xZ_at hz)) rfl hl.1 (Nat.le_of_ble_eq_true rfl) dLa_place_4 ⟨Nat.le_refl _, Nat.le_refl _⟩ hS (fun _ h => .inl h) htab (⟨by decide, by decide, by decide, "java/lang/IndexOutOfBoundsException", hts _ (List.mem_cons_of_mem _ wm2_2), .inl ⟨exA_at hz.2.2 _ (by decide +kernel), rfl⟩⟩) (hts _ (List.mem_cons_of_mem _ wm2_12)) (fun ex H locs hP hk hS => ?_)
    have hO := hO.kept (hk o hO.lt hoq)
    refine lv_astore_n (lv' := [(3, .ref (ex)), (0, .ref (q 0)), (1, .int (a)), (2, .ref (o))]) hx hb dLa_place_12 rfl hl (by decide) rfl (fun ls hl => ?_)
    refine lv_iconst (v := 1) hx hb dLa_place_13 (by decide) ?_
    exact W.iret hx hb hr (fun t ht _ => ⟨by rw [hR]; first | done | rfl, by rw [hR, ht]; dsimp only; exact hP, by rw [hR, ht]; dsimp only; exact hO, hS.F ht⟩) hS.2.2 dLa_place_14
abbrev ccLa_start : ByteArray := method_10_code
def yLa_start : MethodName := ⟨RLa, "start", "(LDrumMachine;I)I"⟩
abbrev wsLa_start : List Cond := Cond.codeWith yLa_start ccLa_start 3 (some .int) [(0, 5, 8, 15)] :: wsA
theorem cwLa_start : Cond.codeWith yLa_start ccLa_start 3 (some .int) [(0, 5, 8, 15)] ∈ wsA := memA3 (i := 103) rfl rfl
theorem dLa_start_0 : decode ccLa_start 0 = .ok (.aload_n 0, 1) := by decide +kernel
theorem dLa_start_1 : decode ccLa_start 1 = .ok (.iload_n 1, 1) := by decide +kernel
theorem dLa_start_2 : decode ccLa_start 2 = .ok (.invokevirtual 45, 3) := by decide +kernel
theorem dLa_start_5 : decode ccLa_start 5 = .ok (.goto 6, 3) := by decide +kernel
theorem dLa_start_8 : decode ccLa_start 8 = .ok (.astore_n 2, 1) := by decide +kernel
theorem dLa_start_9 : decode ccLa_start 9 = .ok (.iconst 1, 1) := by decide +kernel
theorem dLa_start_10 : decode ccLa_start 10 = .ok (.ireturn, 1) := by decide +kernel
theorem dLa_start_11 : decode ccLa_start 11 = .ok (.iconst 0, 1) := by decide +kernel
theorem dLa_start_12 : decode ccLa_start 12 = .ok (.ireturn, 1) := by decide +kernel
def gLa_start (z0 : SC) (f0 : Nat → Int64) (a : Int32) : Int32 × SC × (Nat → Int64) :=
  (if ¬ a < 0 ∧ a ≤ 9999 then (0, fDM_start z0 a, f0) else (1, z0, f0))
set_option maxHeartbeats 4000000 in
set_option maxRecDepth 100000 in
theorem kLa_start (l : Launch) (D : va_G) (q : Nat → Nat) (cI cJ cZ : ClassId) (hq : c_inj q) (hfl : l.flags = pinnedFlags ++ [noTraceFlag]) (o : Nat) (hoq : ¬ c_qs q o) (z0 : SC) (f0 : Nat → Int64) (a : Int32)  : Met l yLa_start wsLa_start { frames := 7, cells := 1, slots := 6, locals := 103 } (va_Pc [.ref (q 0), .int (a)] (hC D q cI cJ cZ o z0 f0)) (hQ D q cI cJ cZ o (gLa_start z0 f0 a)) 1 6 (hA q o) := by
  refine va_MetW (cc := ccLa_start) (maxL := 3) (ret := some .int) (hh := [(0, 5, 8, 15)]) (by decide +kernel) rfl ?_
  intro p e s m args below meth c s₁ B hml hv
  obtain ⟨rfl, ⟨hP, hK⟩, hz, hn, hO⟩ := hv
  have hx := B.exec
  have hb := B.bytes
  have hr := B.returns
  have hts := atoms_spec (ws := wsLa_start) B.pre
  have hown : s.vm.findClass RLa = some m.cls := findClass_of_methodNamed B.named
  have hlocks := B.notSynchronized
  have htab := hd_tab B (hts _ List.mem_cons_self)
  have hS : va_S (hA q o) s.heap s.heap [] := va_S.rf
  have hl := lv_entry ([.ref (q 0), .int (a)]) (n := 3) (Nat.le_of_ble_eq_true rfl)
  rw [lg_entry_eq]
  generalize (lg_sl ([.ref (q 0), .int (a)]) ++ List.replicate (3 - (lg_sl ([.ref (q 0), .int (a)])).length) Slot.unset).toArray = ls at hl ⊢
  have hl : lv_has ls 3 [(0, .ref (q 0)), (1, .int (a))] := hl
  have hR := gLa_start.eq_1 z0 f0 a
  refine lv_aload_n hx hb dLa_start_0 rfl (lv_at hl 0 rfl) ?_
  refine lv_iload_n hx hb dLa_start_1 rfl (lv_at hl 1 rfl) ?_
  by_cases g1 : ¬ a < 0 ∧ a ≤ 9999
  · have hR := hR.trans (if_pos g1)
    refine cl_w2 (W.runV (As := [.int (a)]) (rest := []) ⟨hx, hb, hml, hown, hts⟩ (kDM_start l D q cI cJ cZ hq z0 a g1.1 g1.2) (cwV 1 hts (gV wm3_104 wm3_105 wm3_106 wm1_1 wm3_107) rfl rfl rfl (by decide +kernel) ⟨Nat.le_of_ble_eq_true rfl, Nat.le_of_ble_eq_true rfl⟩) (c_preV0 hK hP) rfl rfl hl.1 rfl (lv_room (Nat.le_of_ble_eq_true rfl)) dLa_start_2 ⟨Nat.zero_le _, Nat.zero_le _⟩) hS (fun _ h => .inl h) (fun _ h => .inl h) (fun H locs hP hk hS => ?_)
    have hO := hO.kept (hk o hO.lt hoq)
    refine w_pad (cells' := 1) (slots' := 6) (Nat.zero_le _) (Nat.zero_le _) ?_
    refine lv_goto hx hb dLa_start_5 rfl ?_
    refine lv_iconst (v := 0) hx hb dLa_start_11 (by decide) ?_
    exact W.iret hx hb hr (fun t ht _ => ⟨by rw [hR]; first | done | rfl, by rw [hR, ht]; dsimp only; exact hP, by rw [hR, ht]; dsimp only; exact hO, hS.F ht⟩) hS.2.2 dLa_start_12
  · have hR := hR.trans (if_neg g1)
    refine ct_row (hpc := 8) (E := "java/lang/IllegalArgumentException") (As := [.int (a)]) (rest := []) (B := hA q o) ⟨hx, hb, hml, hown, hts⟩ (kDM_start_t11 l D q cI cJ cZ hq hfl z0 a g1) (cwV 1 hts (gV wm3_104 wm3_105 wm3_106 wm1_1 wm3_107) rfl rfl rfl (by decide +kernel) ⟨Nat.le_of_ble_eq_true rfl, Nat.le_of_ble_eq_true rfl⟩) (c_preT hK hP (xZ_at hz)) rfl hl.1 (Nat.le_of_ble_eq_true rfl) dLa_start_2 ⟨Nat.le_refl _, Nat.le_refl _⟩ hS (fun _ h => .inl h) htab (⟨by decide, by decide, by decide, "java/lang/IllegalArgumentException", hts _ (List.mem_cons_of_mem _ wm2_3), .inl ⟨exA_at hz.2.2 _ (by decide +kernel), rfl⟩⟩) (hts _ (List.mem_cons_of_mem _ wm2_85)) (fun ex H locs hP hk hS => ?_)
    have hO := hO.kept (hk o hO.lt hoq)
    refine lv_astore_n (lv' := [(2, .ref (ex)), (0, .ref (q 0)), (1, .int (a))]) hx hb dLa_start_8 rfl hl (by decide) rfl (fun ls hl => ?_)
    refine lv_iconst (v := 1) hx hb dLa_start_9 (by decide) ?_
    exact W.iret hx hb hr (fun t ht _ => ⟨by rw [hR]; first | done | rfl, by rw [hR, ht]; dsimp only; exact hP, by rw [hR, ht]; dsimp only; exact hO, hS.F ht⟩) hS.2.2 dLa_start_10
abbrev ccLa_run : ByteArray := method_11_code
def yLa_run : MethodName := ⟨RLa, "run", "(LDrumMachine;I[J)I"⟩
abbrev wsLa_run : List Cond := Cond.codeWith yLa_run ccLa_run 4 (some .int) [(0, 9, 12, 15), (0, 9, 15, 25)] :: wsA
theorem cwLa_run : Cond.codeWith yLa_run ccLa_run 4 (some .int) [(0, 9, 12, 15), (0, 9, 15, 25)] ∈ wsA := memA3 (i := 115) rfl rfl
theorem dLa_run_0 : decode ccLa_run 0 = .ok (.aload_n 2, 1) := by decide +kernel
theorem dLa_run_1 : decode ccLa_run 1 = .ok (.iconst 0, 1) := by decide +kernel
theorem dLa_run_2 : decode ccLa_run 2 = .ok (.aload_n 0, 1) := by decide +kernel
theorem dLa_run_3 : decode ccLa_run 3 = .ok (.iload_n 1, 1) := by decide +kernel
theorem dLa_run_4 : decode ccLa_run 4 = .ok (.invokevirtual 48, 3) := by decide +kernel
theorem dLa_run_7 : decode ccLa_run 7 = .ok (.i2l, 1) := by decide +kernel
theorem dLa_run_8 : decode ccLa_run 8 = .ok (.lastore, 1) := by decide +kernel
theorem dLa_run_9 : decode ccLa_run 9 = .ok (.goto 9, 3) := by decide +kernel
theorem dLa_run_12 : decode ccLa_run 12 = .ok (.astore_n 3, 1) := by decide +kernel
theorem dLa_run_13 : decode ccLa_run 13 = .ok (.iconst 1, 1) := by decide +kernel
theorem dLa_run_14 : decode ccLa_run 14 = .ok (.ireturn, 1) := by decide +kernel
theorem dLa_run_15 : decode ccLa_run 15 = .ok (.astore_n 3, 1) := by decide +kernel
theorem dLa_run_16 : decode ccLa_run 16 = .ok (.iconst 2, 1) := by decide +kernel
theorem dLa_run_17 : decode ccLa_run 17 = .ok (.ireturn, 1) := by decide +kernel
theorem dLa_run_18 : decode ccLa_run 18 = .ok (.iconst 0, 1) := by decide +kernel
theorem dLa_run_19 : decode ccLa_run 19 = .ok (.ireturn, 1) := by decide +kernel
def gLa_run (z0 : SC) (f0 : Nat → Int64) (a : Int32) : Int32 × SC × (Nat → Int64) :=
  (if ¬ a < 0 ∧ a ≤ 300 then (if fPr_isStopped z0 = true then (2, z0, f0) else (0, (fDM_run z0 a).2, vp_updL f0 0 (((fDM_run z0 a).1).toInt64))) else (1, z0, f0))
set_option maxHeartbeats 4000000 in
set_option maxRecDepth 100000 in
theorem kLa_run (l : Launch) (D : va_G) (q : Nat → Nat) (cI cJ cZ : ClassId) (hq : c_inj q) (hfl : l.flags = pinnedFlags ++ [noTraceFlag]) (o : Nat) (hoq : ¬ c_qs q o) (z0 : SC) (f0 : Nat → Int64) (a : Int32) (hi : vp_in (c_cfirst z0) 20) (hc : 0 ≤ (c_pcount z0).toInt) : Met l yLa_run wsLa_run { frames := 8, cells := 1, slots := 6, locals := 198 } (va_Pc [.ref (q 0), .int (a), .ref (o)] (hC D q cI cJ cZ o z0 f0)) (hQ D q cI cJ cZ o (gLa_run z0 f0 a)) 1 6 (hA q o) := by
  refine va_MetW (cc := ccLa_run) (maxL := 4) (ret := some .int) (hh := [(0, 9, 12, 15), (0, 9, 15, 25)]) (by decide +kernel) rfl ?_
  intro p e s m args below meth c s₁ B hml hv
  obtain ⟨rfl, ⟨hP, hK⟩, hz, hn, hO⟩ := hv
  have hx := B.exec
  have hb := B.bytes
  have hr := B.returns
  have hts := atoms_spec (ws := wsLa_run) B.pre
  have hown : s.vm.findClass RLa = some m.cls := findClass_of_methodNamed B.named
  have hlocks := B.notSynchronized
  have htab := hd_tab B (hts _ List.mem_cons_self)
  have hS : va_S (hA q o) s.heap s.heap [] := va_S.rf
  have hl := lv_entry ([.ref (q 0), .int (a), .ref (o)]) (n := 4) (Nat.le_of_ble_eq_true rfl)
  rw [lg_entry_eq]
  generalize (lg_sl ([.ref (q 0), .int (a), .ref (o)]) ++ List.replicate (4 - (lg_sl ([.ref (q 0), .int (a), .ref (o)])).length) Slot.unset).toArray = ls at hl ⊢
  have hl : lv_has ls 4 [(0, .ref (q 0)), (1, .int (a)), (2, .ref (o))] := hl
  have hR := gLa_run.eq_1 z0 f0 a
  refine lv_aload_n hx hb dLa_run_0 rfl (lv_at hl 2 rfl) ?_
  refine lv_iconst (v := 0) hx hb dLa_run_1 (by decide) ?_
  refine lv_aload_n hx hb dLa_run_2 rfl (lv_at hl 0 rfl) ?_
  refine lv_iload_n hx hb dLa_run_3 rfl (lv_at hl 1 rfl) ?_
  by_cases g1 : ¬ a < 0 ∧ a ≤ 300
  · have hR := hR.trans (if_pos g1)
    by_cases g2 : fPr_isStopped z0 = true
    · have hR := hR.trans (if_pos g2)
      refine ct_row (hpc := 15) (E := "java/lang/IllegalStateException") (As := [.int (a)]) (rest := [.int (0), .ref (o)]) (B := hA q o) ⟨hx, hb, hml, hown, hts⟩ (kDM_run_t31 l D q cI cJ cZ hq hfl z0 a g1.1 g1.2 g2) (cwV 1 hts (gV wm3_116 wm3_117 wm3_118 wm1_1 wm3_119) rfl rfl rfl (by decide +kernel) ⟨Nat.le_of_ble_eq_true rfl, Nat.le_of_ble_eq_true rfl⟩) (c_preT hK hP (xZ_at hz)) rfl hl.1 (Nat.le_of_ble_eq_true rfl) dLa_run_4 ⟨Nat.le_refl _, Nat.le_refl _⟩ hS (fun _ h => .inl h) htab (⟨by decide, by decide, by decide, "java/lang/IllegalArgumentException", hts _ (List.mem_cons_of_mem _ wm2_3), .inr ⟨nc_mv (State.WarmedH.refl s) (hn ("java/lang/IllegalStateException", "java/lang/IllegalArgumentException") (by decide)), ⟨by decide, by decide, by decide, "java/lang/IllegalStateException", hts _ (List.mem_cons_of_mem _ wm2_136), .inl ⟨exA_at hz.2.2 _ (by decide +kernel), rfl⟩⟩⟩⟩) (hts _ (List.mem_cons_of_mem _ wm2_147)) (fun ex H locs hP hk hS => ?_)
      have hO := hO.kept (hk o hO.lt hoq)
      refine lv_astore_n (lv' := [(3, .ref (ex)), (0, .ref (q 0)), (1, .int (a)), (2, .ref (o))]) hx hb dLa_run_15 rfl hl (by decide) rfl (fun ls hl => ?_)
      refine lv_iconst (v := 2) hx hb dLa_run_16 (by decide) ?_
      exact W.iret hx hb hr (fun t ht _ => ⟨by rw [hR]; first | done | rfl, by rw [hR, ht]; dsimp only; exact hP, by rw [hR, ht]; dsimp only; exact hO, hS.F ht⟩) hS.2.2 dLa_run_17
    · have hR := hR.trans (if_neg g2)
      refine cl_w2 (W.runV (As := [.int (a)]) (rest := [.int (0), .ref (o)]) ⟨hx, hb, hml, hown, hts⟩ (kDM_run l D q cI cJ cZ hq z0 a g1.1 g1.2 g2 hi hc) (cwV 1 hts (gV wm3_116 wm3_117 wm3_118 wm1_1 wm3_119) rfl rfl rfl (by decide +kernel) ⟨Nat.le_of_ble_eq_true rfl, Nat.le_of_ble_eq_true rfl⟩) (c_preV0 hK hP) rfl rfl hl.1 rfl (lv_room (Nat.le_of_ble_eq_true rfl)) dLa_run_4 ⟨Nat.zero_le _, Nat.zero_le _⟩) hS (fun _ h => .inl h) (fun _ h => .inl h) (fun H locs hP hk hS => ?_)
      have hO := hO.kept (hk o hO.lt hoq)
      refine w_pad (cells' := 1) (slots' := 6) (Nat.zero_le _) (Nat.zero_le _) ?_
      refine lv_i2l hx hb dLa_run_7 rfl ?_
      refine ow_last (x := (((fDM_run z0 a).1).toInt64)) hx hb hK hO hS (.inr rfl) dLa_run_8 (fun H locs hO hk hS => ?_)
      have hP := c_up2 hP (fun a ha => hk a (fun h => hoq (h ▸ ha)))
      refine lv_goto hx hb dLa_run_9 rfl ?_
      refine lv_iconst (v := 0) hx hb dLa_run_18 (by decide) ?_
      exact W.iret hx hb hr (fun t ht _ => ⟨by rw [hR]; first | done | rfl, by rw [hR, ht]; dsimp only; exact hP, by rw [hR, ht]; dsimp only; exact hO, hS.F ht⟩) hS.2.2 dLa_run_19
  · have hR := hR.trans (if_neg g1)
    refine ct_row (hpc := 12) (E := "java/lang/IllegalArgumentException") (As := [.int (a)]) (rest := [.int (0), .ref (o)]) (B := hA q o) ⟨hx, hb, hml, hown, hts⟩ (kDM_run_t11 l D q cI cJ cZ hq hfl z0 a g1) (cwV 1 hts (gV wm3_116 wm3_117 wm3_118 wm1_1 wm3_119) rfl rfl rfl (by decide +kernel) ⟨Nat.le_of_ble_eq_true rfl, Nat.le_of_ble_eq_true rfl⟩) (c_preT hK hP (xZ_at hz)) rfl hl.1 (Nat.le_of_ble_eq_true rfl) dLa_run_4 ⟨Nat.le_refl _, Nat.le_refl _⟩ hS (fun _ h => .inl h) htab (⟨by decide, by decide, by decide, "java/lang/IllegalArgumentException", hts _ (List.mem_cons_of_mem _ wm2_3), .inl ⟨exA_at hz.2.2 _ (by decide +kernel), rfl⟩⟩) (hts _ (List.mem_cons_of_mem _ wm2_85)) (fun ex H locs hP hk hS => ?_)
    have hO := hO.kept (hk o hO.lt hoq)
    refine lv_astore_n (lv' := [(3, .ref (ex)), (0, .ref (q 0)), (1, .int (a)), (2, .ref (o))]) hx hb dLa_run_12 rfl hl (by decide) rfl (fun ls hl => ?_)
    refine lv_iconst (v := 1) hx hb dLa_run_13 (by decide) ?_
    exact W.iret hx hb hr (fun t ht _ => ⟨by rw [hR]; first | done | rfl, by rw [hR, ht]; dsimp only; exact hP, by rw [hR, ht]; dsimp only; exact hO, hS.F ht⟩) hS.2.2 dLa_run_14
abbrev ccLa_register : ByteArray := method_12_code
def yLa_register : MethodName := ⟨RLa, "register", "(LDrumMachine;I[J)I"⟩
abbrev wsLa_register : List Cond := Cond.codeWith yLa_register ccLa_register 4 (some .int) [(0, 8, 11, 13)] :: wsA
theorem cwLa_register : Cond.codeWith yLa_register ccLa_register 4 (some .int) [(0, 8, 11, 13)] ∈ wsA := memA4 (i := 104) rfl rfl
theorem dLa_register_0 : decode ccLa_register 0 = .ok (.aload_n 2, 1) := by decide +kernel
theorem dLa_register_1 : decode ccLa_register 1 = .ok (.iconst 0, 1) := by decide +kernel
theorem dLa_register_2 : decode ccLa_register 2 = .ok (.aload_n 0, 1) := by decide +kernel
theorem dLa_register_3 : decode ccLa_register 3 = .ok (.iload_n 1, 1) := by decide +kernel
theorem dLa_register_4 : decode ccLa_register 4 = .ok (.invokevirtual 51, 3) := by decide +kernel
theorem dLa_register_7 : decode ccLa_register 7 = .ok (.lastore, 1) := by decide +kernel
theorem dLa_register_8 : decode ccLa_register 8 = .ok (.goto 6, 3) := by decide +kernel
theorem dLa_register_11 : decode ccLa_register 11 = .ok (.astore_n 3, 1) := by decide +kernel
theorem dLa_register_12 : decode ccLa_register 12 = .ok (.iconst 1, 1) := by decide +kernel
theorem dLa_register_13 : decode ccLa_register 13 = .ok (.ireturn, 1) := by decide +kernel
theorem dLa_register_14 : decode ccLa_register 14 = .ok (.iconst 0, 1) := by decide +kernel
theorem dLa_register_15 : decode ccLa_register 15 = .ok (.ireturn, 1) := by decide +kernel
def gLa_register (z0 : SC) (f0 : Nat → Int64) (a : Int32) : Int32 × SC × (Nat → Int64) :=
  (if a = 0 ∨ a = 1 ∨ a = 2 then (0, z0, vp_updL f0 0 (fDM_register z0 a)) else (1, z0, f0))
set_option maxHeartbeats 4000000 in
set_option maxRecDepth 100000 in
theorem kLa_register (l : Launch) (D : va_G) (q : Nat → Nat) (cI cJ cZ : ClassId) (hq : c_inj q) (hfl : l.flags = pinnedFlags ++ [noTraceFlag]) (o : Nat) (hoq : ¬ c_qs q o) (z0 : SC) (f0 : Nat → Int64) (a : Int32)  : Met l yLa_register wsLa_register { frames := 7, cells := 1, slots := 6, locals := 103 } (va_Pc [.ref (q 0), .int (a), .ref (o)] (hC D q cI cJ cZ o z0 f0)) (hQ D q cI cJ cZ o (gLa_register z0 f0 a)) 1 6 (hA q o) := by
  refine va_MetW (cc := ccLa_register) (maxL := 4) (ret := some .int) (hh := [(0, 8, 11, 13)]) (by decide +kernel) rfl ?_
  intro p e s m args below meth c s₁ B hml hv
  obtain ⟨rfl, ⟨hP, hK⟩, hz, hn, hO⟩ := hv
  have hx := B.exec
  have hb := B.bytes
  have hr := B.returns
  have hts := atoms_spec (ws := wsLa_register) B.pre
  have hown : s.vm.findClass RLa = some m.cls := findClass_of_methodNamed B.named
  have hlocks := B.notSynchronized
  have htab := hd_tab B (hts _ List.mem_cons_self)
  have hS : va_S (hA q o) s.heap s.heap [] := va_S.rf
  have hl := lv_entry ([.ref (q 0), .int (a), .ref (o)]) (n := 4) (Nat.le_of_ble_eq_true rfl)
  rw [lg_entry_eq]
  generalize (lg_sl ([.ref (q 0), .int (a), .ref (o)]) ++ List.replicate (4 - (lg_sl ([.ref (q 0), .int (a), .ref (o)])).length) Slot.unset).toArray = ls at hl ⊢
  have hl : lv_has ls 4 [(0, .ref (q 0)), (1, .int (a)), (2, .ref (o))] := hl
  have hR := gLa_register.eq_1 z0 f0 a
  refine lv_aload_n hx hb dLa_register_0 rfl (lv_at hl 2 rfl) ?_
  refine lv_iconst (v := 0) hx hb dLa_register_1 (by decide) ?_
  refine lv_aload_n hx hb dLa_register_2 rfl (lv_at hl 0 rfl) ?_
  refine lv_iload_n hx hb dLa_register_3 rfl (lv_at hl 1 rfl) ?_
  by_cases g1 : a = 0 ∨ a = 1 ∨ a = 2
  · have hR := hR.trans (if_pos g1)
    refine cl_rd (W.runV (As := [.int (a)]) (rest := [.int (0), .ref (o)]) ⟨hx, hb, hml, hown, hts⟩ (kDM_register l D q cI cJ cZ hq z0 a g1) (cwV 1 hts (gV wm4_105 wm4_106 wm4_107 wm1_1 wm4_108) rfl rfl rfl (by decide +kernel) ⟨Nat.le_of_ble_eq_true rfl, Nat.le_of_ble_eq_true rfl⟩) (c_preV0 hK hP) rfl rfl hl.1 rfl (lv_room (Nat.le_of_ble_eq_true rfl)) dLa_register_4 ⟨Nat.zero_le _, Nat.zero_le _⟩) ?_
    refine w_pad (cells' := 1) (slots' := 6) (Nat.zero_le _) (Nat.zero_le _) ?_
    refine ow_last (x := (fDM_register z0 a)) hx hb hK hO hS (.inr rfl) dLa_register_7 (fun H locs hO hk hS => ?_)
    have hP := c_up2 hP (fun a ha => hk a (fun h => hoq (h ▸ ha)))
    refine lv_goto hx hb dLa_register_8 rfl ?_
    refine lv_iconst (v := 0) hx hb dLa_register_14 (by decide) ?_
    exact W.iret hx hb hr (fun t ht _ => ⟨by rw [hR]; first | done | rfl, by rw [hR, ht]; dsimp only; exact hP, by rw [hR, ht]; dsimp only; exact hO, hS.F ht⟩) hS.2.2 dLa_register_15
  · have hR := hR.trans (if_neg g1)
    refine ct_row (hpc := 11) (E := "java/lang/IndexOutOfBoundsException") (As := [.int (a)]) (rest := [.int (0), .ref (o)]) (B := hA q o) ⟨hx, hb, hml, hown, hts⟩ (kDM_register_t52 l D q cI cJ cZ hq hfl z0 a g1) (cwV 1 hts (gV wm4_105 wm4_106 wm4_107 wm1_1 wm4_108) rfl rfl rfl (by decide +kernel) ⟨Nat.le_of_ble_eq_true rfl, Nat.le_of_ble_eq_true rfl⟩) (c_preT hK hP (xZ_at hz)) rfl hl.1 (Nat.le_of_ble_eq_true rfl) dLa_register_4 ⟨Nat.le_refl _, Nat.le_refl _⟩ hS (fun _ h => .inl h) htab (⟨by decide, by decide, by decide, "java/lang/IndexOutOfBoundsException", hts _ (List.mem_cons_of_mem _ wm2_2), .inl ⟨exA_at hz.2.2 _ (by decide +kernel), rfl⟩⟩) (hts _ (List.mem_cons_of_mem _ wm2_12)) (fun ex H locs hP hk hS => ?_)
    have hO := hO.kept (hk o hO.lt hoq)
    refine lv_astore_n (lv' := [(3, .ref (ex)), (0, .ref (q 0)), (1, .int (a)), (2, .ref (o))]) hx hb dLa_register_11 rfl hl (by decide) rfl (fun ls hl => ?_)
    refine lv_iconst (v := 1) hx hb dLa_register_12 (by decide) ?_
    exact W.iret hx hb hr (fun t ht _ => ⟨by rw [hR]; first | done | rfl, by rw [hR, ht]; dsimp only; exact hP, by rw [hR, ht]; dsimp only; exact hO, hS.F ht⟩) hS.2.2 dLa_register_13
abbrev ccLa_sign : ByteArray := method_13_code
def yLa_sign : MethodName := ⟨RLa, "sign", "(LDrumMachine;I[J)I"⟩
abbrev wsLa_sign : List Cond := Cond.codeWith yLa_sign ccLa_sign 4 (some .int) [(0, 16, 19, 13)] :: wsA
theorem cwLa_sign : Cond.codeWith yLa_sign ccLa_sign 4 (some .int) [(0, 16, 19, 13)] ∈ wsA := memA4 (i := 124) rfl rfl
theorem dLa_sign_0 : decode ccLa_sign 0 = .ok (.aload_n 2, 1) := by decide +kernel
theorem dLa_sign_1 : decode ccLa_sign 1 = .ok (.iconst 0, 1) := by decide +kernel
theorem dLa_sign_2 : decode ccLa_sign 2 = .ok (.aload_n 0, 1) := by decide +kernel
theorem dLa_sign_3 : decode ccLa_sign 3 = .ok (.iload_n 1, 1) := by decide +kernel
theorem dLa_sign_4 : decode ccLa_sign 4 = .ok (.invokevirtual 55, 3) := by decide +kernel
theorem dLa_sign_7 : decode ccLa_sign 7 = .ok (.ifCond .eq 7, 3) := by decide +kernel
theorem dLa_sign_10 : decode ccLa_sign 10 = .ok (.lconst 1, 1) := by decide +kernel
theorem dLa_sign_11 : decode ccLa_sign 11 = .ok (.goto 4, 3) := by decide +kernel
theorem dLa_sign_14 : decode ccLa_sign 14 = .ok (.lconst 0, 1) := by decide +kernel
theorem dLa_sign_15 : decode ccLa_sign 15 = .ok (.lastore, 1) := by decide +kernel
theorem dLa_sign_16 : decode ccLa_sign 16 = .ok (.goto 6, 3) := by decide +kernel
theorem dLa_sign_19 : decode ccLa_sign 19 = .ok (.astore_n 3, 1) := by decide +kernel
theorem dLa_sign_20 : decode ccLa_sign 20 = .ok (.iconst 1, 1) := by decide +kernel
theorem dLa_sign_21 : decode ccLa_sign 21 = .ok (.ireturn, 1) := by decide +kernel
theorem dLa_sign_22 : decode ccLa_sign 22 = .ok (.iconst 0, 1) := by decide +kernel
theorem dLa_sign_23 : decode ccLa_sign 23 = .ok (.ireturn, 1) := by decide +kernel
def gLa_sign (z0 : SC) (f0 : Nat → Int64) (a : Int32) : Int32 × SC × (Nat → Int64) :=
  (if a = 0 ∨ a = 1 ∨ a = 2 then (if (fDM_sign z0 a) = true then (0, z0, vp_updL f0 0 1) else (0, z0, vp_updL f0 0 0)) else (1, z0, f0))
set_option maxHeartbeats 4000000 in
set_option maxRecDepth 100000 in
theorem kLa_sign (l : Launch) (D : va_G) (q : Nat → Nat) (cI cJ cZ : ClassId) (hq : c_inj q) (hfl : l.flags = pinnedFlags ++ [noTraceFlag]) (o : Nat) (hoq : ¬ c_qs q o) (z0 : SC) (f0 : Nat → Int64) (a : Int32)  : Met l yLa_sign wsLa_sign { frames := 7, cells := 1, slots := 6, locals := 103 } (va_Pc [.ref (q 0), .int (a), .ref (o)] (hC D q cI cJ cZ o z0 f0)) (hQ D q cI cJ cZ o (gLa_sign z0 f0 a)) 1 6 (hA q o) := by
  refine va_MetW (cc := ccLa_sign) (maxL := 4) (ret := some .int) (hh := [(0, 16, 19, 13)]) (by decide +kernel) rfl ?_
  intro p e s m args below meth c s₁ B hml hv
  obtain ⟨rfl, ⟨hP, hK⟩, hz, hn, hO⟩ := hv
  have hx := B.exec
  have hb := B.bytes
  have hr := B.returns
  have hts := atoms_spec (ws := wsLa_sign) B.pre
  have hown : s.vm.findClass RLa = some m.cls := findClass_of_methodNamed B.named
  have hlocks := B.notSynchronized
  have htab := hd_tab B (hts _ List.mem_cons_self)
  have hS : va_S (hA q o) s.heap s.heap [] := va_S.rf
  have hl := lv_entry ([.ref (q 0), .int (a), .ref (o)]) (n := 4) (Nat.le_of_ble_eq_true rfl)
  rw [lg_entry_eq]
  generalize (lg_sl ([.ref (q 0), .int (a), .ref (o)]) ++ List.replicate (4 - (lg_sl ([.ref (q 0), .int (a), .ref (o)])).length) Slot.unset).toArray = ls at hl ⊢
  have hl : lv_has ls 4 [(0, .ref (q 0)), (1, .int (a)), (2, .ref (o))] := hl
  have hR := gLa_sign.eq_1 z0 f0 a
  refine lv_aload_n hx hb dLa_sign_0 rfl (lv_at hl 2 rfl) ?_
  refine lv_iconst (v := 0) hx hb dLa_sign_1 (by decide) ?_
  refine lv_aload_n hx hb dLa_sign_2 rfl (lv_at hl 0 rfl) ?_
  refine lv_iload_n hx hb dLa_sign_3 rfl (lv_at hl 1 rfl) ?_
  by_cases g1 : a = 0 ∨ a = 1 ∨ a = 2
  · have hR := hR.trans (if_pos g1)
    refine cl_rd (W.runV (As := [.int (a)]) (rest := [.int (0), .ref (o)]) ⟨hx, hb, hml, hown, hts⟩ (kDM_sign l D q cI cJ cZ hq z0 a g1) (cwV 1 hts (gV wm4_125 wm4_126 wm4_127 wm1_1 wm4_128) rfl rfl rfl (by decide +kernel) ⟨Nat.le_of_ble_eq_true rfl, Nat.le_of_ble_eq_true rfl⟩) (c_preV0 hK hP) rfl rfl hl.1 rfl (lv_room (Nat.le_of_ble_eq_true rfl)) dLa_sign_4 ⟨Nat.zero_le _, Nat.zero_le _⟩) ?_
    refine w_pad (cells' := 1) (slots' := 6) (Nat.zero_le _) (Nat.zero_le _) ?_
    refine wz_ifeq hx hb dLa_sign_7 rfl (fun h7 => ?_) (fun h7 => ?_)
    · have hR := hR.trans (if_neg h7)
      refine lv_lconst (v := 0) hx hb dLa_sign_14 (by decide) ?_
      refine ow_last (x := 0) hx hb hK hO hS (.inr rfl) dLa_sign_15 (fun H locs hO hk hS => ?_)
      have hP := c_up2 hP (fun a ha => hk a (fun h => hoq (h ▸ ha)))
      refine lv_goto hx hb dLa_sign_16 rfl ?_
      refine lv_iconst (v := 0) hx hb dLa_sign_22 (by decide) ?_
      exact W.iret hx hb hr (fun t ht _ => ⟨by rw [hR]; first | done | rfl, by rw [hR, ht]; dsimp only; exact hP, by rw [hR, ht]; dsimp only; exact hO, hS.F ht⟩) hS.2.2 dLa_sign_23
    · have hR := hR.trans (if_pos h7)
      refine lv_lconst (v := 1) hx hb dLa_sign_10 (by decide) ?_
      refine lv_goto hx hb dLa_sign_11 rfl ?_
      refine ow_last (x := 1) hx hb hK hO hS (.inr rfl) dLa_sign_15 (fun H locs hO hk hS => ?_)
      have hP := c_up2 hP (fun a ha => hk a (fun h => hoq (h ▸ ha)))
      refine lv_goto hx hb dLa_sign_16 rfl ?_
      refine lv_iconst (v := 0) hx hb dLa_sign_22 (by decide) ?_
      exact W.iret hx hb hr (fun t ht _ => ⟨by rw [hR]; first | done | rfl, by rw [hR, ht]; dsimp only; exact hP, by rw [hR, ht]; dsimp only; exact hO, hS.F ht⟩) hS.2.2 dLa_sign_23
  · have hR := hR.trans (if_neg g1)
    refine ct_row (hpc := 19) (E := "java/lang/IndexOutOfBoundsException") (As := [.int (a)]) (rest := [.int (0), .ref (o)]) (B := hA q o) ⟨hx, hb, hml, hown, hts⟩ (kDM_sign_t52 l D q cI cJ cZ hq hfl z0 a g1) (cwV 1 hts (gV wm4_125 wm4_126 wm4_127 wm1_1 wm4_128) rfl rfl rfl (by decide +kernel) ⟨Nat.le_of_ble_eq_true rfl, Nat.le_of_ble_eq_true rfl⟩) (c_preT hK hP (xZ_at hz)) rfl hl.1 (Nat.le_of_ble_eq_true rfl) dLa_sign_4 ⟨Nat.le_refl _, Nat.le_refl _⟩ hS (fun _ h => .inl h) htab (⟨by decide, by decide, by decide, "java/lang/IndexOutOfBoundsException", hts _ (List.mem_cons_of_mem _ wm2_2), .inl ⟨exA_at hz.2.2 _ (by decide +kernel), rfl⟩⟩) (hts _ (List.mem_cons_of_mem _ wm2_12)) (fun ex H locs hP hk hS => ?_)
    have hO := hO.kept (hk o hO.lt hoq)
    refine lv_astore_n (lv' := [(3, .ref (ex)), (0, .ref (q 0)), (1, .int (a)), (2, .ref (o))]) hx hb dLa_sign_19 rfl hl (by decide) rfl (fun ls hl => ?_)
    refine lv_iconst (v := 1) hx hb dLa_sign_20 (by decide) ?_
    exact W.iret hx hb hr (fun t ht _ => ⟨by rw [hR]; first | done | rfl, by rw [hR, ht]; dsimp only; exact hP, by rw [hR, ht]; dsimp only; exact hO, hS.F ht⟩) hS.2.2 dLa_sign_21
abbrev ccLa_get : ByteArray := method_14_code
def yLa_get : MethodName := ⟨RLa, "get", "(LDrumMachine;I[J)I"⟩
abbrev wsLa_get : List Cond := Cond.codeWith yLa_get ccLa_get 4 (some .int) [(0, 8, 11, 13)] :: wsA
theorem cwLa_get : Cond.codeWith yLa_get ccLa_get 4 (some .int) [(0, 8, 11, 13)] ∈ wsA := memA4 (i := 148) rfl rfl
theorem dLa_get_0 : decode ccLa_get 0 = .ok (.aload_n 2, 1) := by decide +kernel
theorem dLa_get_1 : decode ccLa_get 1 = .ok (.iconst 0, 1) := by decide +kernel
theorem dLa_get_2 : decode ccLa_get 2 = .ok (.aload_n 0, 1) := by decide +kernel
theorem dLa_get_3 : decode ccLa_get 3 = .ok (.iload_n 1, 1) := by decide +kernel
theorem dLa_get_4 : decode ccLa_get 4 = .ok (.invokevirtual 59, 3) := by decide +kernel
theorem dLa_get_7 : decode ccLa_get 7 = .ok (.lastore, 1) := by decide +kernel
theorem dLa_get_8 : decode ccLa_get 8 = .ok (.goto 6, 3) := by decide +kernel
theorem dLa_get_11 : decode ccLa_get 11 = .ok (.astore_n 3, 1) := by decide +kernel
theorem dLa_get_12 : decode ccLa_get 12 = .ok (.iconst 1, 1) := by decide +kernel
theorem dLa_get_13 : decode ccLa_get 13 = .ok (.ireturn, 1) := by decide +kernel
theorem dLa_get_14 : decode ccLa_get 14 = .ok (.iconst 0, 1) := by decide +kernel
theorem dLa_get_15 : decode ccLa_get 15 = .ok (.ireturn, 1) := by decide +kernel
def gLa_get (z0 : SC) (f0 : Nat → Int64) (a : Int32) : Int32 × SC × (Nat → Int64) :=
  (if fDr_hasAddress a = true then (0, z0, vp_updL f0 0 (fDM_get z0 a)) else (1, z0, f0))
set_option maxHeartbeats 4000000 in
set_option maxRecDepth 100000 in
theorem kLa_get (l : Launch) (D : va_G) (q : Nat → Nat) (cI cJ cZ : ClassId) (hq : c_inj q) (hfl : l.flags = pinnedFlags ++ [noTraceFlag]) (o : Nat) (hoq : ¬ c_qs q o) (z0 : SC) (f0 : Nat → Int64) (a : Int32)  : Met l yLa_get wsLa_get { frames := 7, cells := 1, slots := 6, locals := 103 } (va_Pc [.ref (q 0), .int (a), .ref (o)] (hC D q cI cJ cZ o z0 f0)) (hQ D q cI cJ cZ o (gLa_get z0 f0 a)) 1 6 (hA q o) := by
  refine va_MetW (cc := ccLa_get) (maxL := 4) (ret := some .int) (hh := [(0, 8, 11, 13)]) (by decide +kernel) rfl ?_
  intro p e s m args below meth c s₁ B hml hv
  obtain ⟨rfl, ⟨hP, hK⟩, hz, hn, hO⟩ := hv
  have hx := B.exec
  have hb := B.bytes
  have hr := B.returns
  have hts := atoms_spec (ws := wsLa_get) B.pre
  have hown : s.vm.findClass RLa = some m.cls := findClass_of_methodNamed B.named
  have hlocks := B.notSynchronized
  have htab := hd_tab B (hts _ List.mem_cons_self)
  have hS : va_S (hA q o) s.heap s.heap [] := va_S.rf
  have hl := lv_entry ([.ref (q 0), .int (a), .ref (o)]) (n := 4) (Nat.le_of_ble_eq_true rfl)
  rw [lg_entry_eq]
  generalize (lg_sl ([.ref (q 0), .int (a), .ref (o)]) ++ List.replicate (4 - (lg_sl ([.ref (q 0), .int (a), .ref (o)])).length) Slot.unset).toArray = ls at hl ⊢
  have hl : lv_has ls 4 [(0, .ref (q 0)), (1, .int (a)), (2, .ref (o))] := hl
  have hR := gLa_get.eq_1 z0 f0 a
  refine lv_aload_n hx hb dLa_get_0 rfl (lv_at hl 2 rfl) ?_
  refine lv_iconst (v := 0) hx hb dLa_get_1 (by decide) ?_
  refine lv_aload_n hx hb dLa_get_2 rfl (lv_at hl 0 rfl) ?_
  refine lv_iload_n hx hb dLa_get_3 rfl (lv_at hl 1 rfl) ?_
  by_cases g1 : fDr_hasAddress a = true
  · have hR := hR.trans (if_pos g1)
    refine cl_rd (W.runV (As := [.int (a)]) (rest := [.int (0), .ref (o)]) ⟨hx, hb, hml, hown, hts⟩ (kDM_get l D q cI cJ cZ hq z0 a g1) (cwV 1 hts (gV wm4_149 wm4_150 wm4_151 wm1_1 wm4_152) rfl rfl rfl (by decide +kernel) ⟨Nat.le_of_ble_eq_true rfl, Nat.le_of_ble_eq_true rfl⟩) (c_preV0 hK hP) rfl rfl hl.1 rfl (lv_room (Nat.le_of_ble_eq_true rfl)) dLa_get_4 ⟨Nat.zero_le _, Nat.zero_le _⟩) ?_
    refine w_pad (cells' := 1) (slots' := 6) (Nat.zero_le _) (Nat.zero_le _) ?_
    refine ow_last (x := (fDM_get z0 a)) hx hb hK hO hS (.inr rfl) dLa_get_7 (fun H locs hO hk hS => ?_)
    have hP := c_up2 hP (fun a ha => hk a (fun h => hoq (h ▸ ha)))
    refine lv_goto hx hb dLa_get_8 rfl ?_
    refine lv_iconst (v := 0) hx hb dLa_get_14 (by decide) ?_
    exact W.iret hx hb hr (fun t ht _ => ⟨by rw [hR]; first | done | rfl, by rw [hR, ht]; dsimp only; exact hP, by rw [hR, ht]; dsimp only; exact hO, hS.F ht⟩) hS.2.2 dLa_get_15
  · have hR := hR.trans (if_neg g1)
    refine ct_row (hpc := 11) (E := "java/lang/IndexOutOfBoundsException") (As := [.int (a)]) (rest := [.int (0), .ref (o)]) (B := hA q o) ⟨hx, hb, hml, hown, hts⟩ (kDM_get_t7 l D q cI cJ cZ hq hfl z0 a g1) (cwV 1 hts (gV wm4_149 wm4_150 wm4_151 wm1_1 wm4_152) rfl rfl rfl (by decide +kernel) ⟨Nat.le_of_ble_eq_true rfl, Nat.le_of_ble_eq_true rfl⟩) (c_preT hK hP (xZ_at hz)) rfl hl.1 (Nat.le_of_ble_eq_true rfl) dLa_get_4 ⟨Nat.le_refl _, Nat.le_refl _⟩ hS (fun _ h => .inl h) htab (⟨by decide, by decide, by decide, "java/lang/IndexOutOfBoundsException", hts _ (List.mem_cons_of_mem _ wm2_2), .inl ⟨exA_at hz.2.2 _ (by decide +kernel), rfl⟩⟩) (hts _ (List.mem_cons_of_mem _ wm2_12)) (fun ex H locs hP hk hS => ?_)
    have hO := hO.kept (hk o hO.lt hoq)
    refine lv_astore_n (lv' := [(3, .ref (ex)), (0, .ref (q 0)), (1, .int (a)), (2, .ref (o))]) hx hb dLa_get_11 rfl hl (by decide) rfl (fun ls hl => ?_)
    refine lv_iconst (v := 1) hx hb dLa_get_12 (by decide) ?_
    exact W.iret hx hb hr (fun t ht _ => ⟨by rw [hR]; first | done | rfl, by rw [hR, ht]; dsimp only; exact hP, by rw [hR, ht]; dsimp only; exact hO, hS.F ht⟩) hS.2.2 dLa_get_13
abbrev ccLa_output : ByteArray := method_15_code
def yLa_output : MethodName := ⟨RLa, "output", "(LDrumMachine;I[J)I"⟩
abbrev wsLa_output : List Cond := Cond.codeWith yLa_output ccLa_output 4 (some .int) [(0, 8, 11, 13)] :: wsA
theorem cwLa_output : Cond.codeWith yLa_output ccLa_output 4 (some .int) [(0, 8, 11, 13)] ∈ wsA := memA4 (i := 159) rfl rfl
theorem dLa_output_0 : decode ccLa_output 0 = .ok (.aload_n 2, 1) := by decide +kernel
theorem dLa_output_1 : decode ccLa_output 1 = .ok (.iconst 0, 1) := by decide +kernel
theorem dLa_output_2 : decode ccLa_output 2 = .ok (.aload_n 0, 1) := by decide +kernel
theorem dLa_output_3 : decode ccLa_output 3 = .ok (.iload_n 1, 1) := by decide +kernel
theorem dLa_output_4 : decode ccLa_output 4 = .ok (.invokevirtual 62, 3) := by decide +kernel
theorem dLa_output_7 : decode ccLa_output 7 = .ok (.lastore, 1) := by decide +kernel
theorem dLa_output_8 : decode ccLa_output 8 = .ok (.goto 6, 3) := by decide +kernel
theorem dLa_output_11 : decode ccLa_output 11 = .ok (.astore_n 3, 1) := by decide +kernel
theorem dLa_output_12 : decode ccLa_output 12 = .ok (.iconst 1, 1) := by decide +kernel
theorem dLa_output_13 : decode ccLa_output 13 = .ok (.ireturn, 1) := by decide +kernel
theorem dLa_output_14 : decode ccLa_output 14 = .ok (.iconst 0, 1) := by decide +kernel
theorem dLa_output_15 : decode ccLa_output 15 = .ok (.ireturn, 1) := by decide +kernel
def gLa_output (z0 : SC) (f0 : Nat → Int64) (a : Int32) : Int32 × SC × (Nat → Int64) :=
  (if fPu_hasWord z0 a = true then (0, z0, vp_updL f0 0 (fDM_output z0 a)) else (1, z0, f0))
set_option maxHeartbeats 4000000 in
set_option maxRecDepth 100000 in
theorem kLa_output (l : Launch) (D : va_G) (q : Nat → Nat) (cI cJ cZ : ClassId) (hq : c_inj q) (hfl : l.flags = pinnedFlags ++ [noTraceFlag]) (o : Nat) (hoq : ¬ c_qs q o) (z0 : SC) (f0 : Nat → Int64) (a : Int32) (hc : (c_pcount z0).toInt ≤ 40) : Met l yLa_output wsLa_output { frames := 7, cells := 1, slots := 6, locals := 103 } (va_Pc [.ref (q 0), .int (a), .ref (o)] (hC D q cI cJ cZ o z0 f0)) (hQ D q cI cJ cZ o (gLa_output z0 f0 a)) 1 6 (hA q o) := by
  refine va_MetW (cc := ccLa_output) (maxL := 4) (ret := some .int) (hh := [(0, 8, 11, 13)]) (by decide +kernel) rfl ?_
  intro p e s m args below meth c s₁ B hml hv
  obtain ⟨rfl, ⟨hP, hK⟩, hz, hn, hO⟩ := hv
  have hx := B.exec
  have hb := B.bytes
  have hr := B.returns
  have hts := atoms_spec (ws := wsLa_output) B.pre
  have hown : s.vm.findClass RLa = some m.cls := findClass_of_methodNamed B.named
  have hlocks := B.notSynchronized
  have htab := hd_tab B (hts _ List.mem_cons_self)
  have hS : va_S (hA q o) s.heap s.heap [] := va_S.rf
  have hl := lv_entry ([.ref (q 0), .int (a), .ref (o)]) (n := 4) (Nat.le_of_ble_eq_true rfl)
  rw [lg_entry_eq]
  generalize (lg_sl ([.ref (q 0), .int (a), .ref (o)]) ++ List.replicate (4 - (lg_sl ([.ref (q 0), .int (a), .ref (o)])).length) Slot.unset).toArray = ls at hl ⊢
  have hl : lv_has ls 4 [(0, .ref (q 0)), (1, .int (a)), (2, .ref (o))] := hl
  have hR := gLa_output.eq_1 z0 f0 a
  refine lv_aload_n hx hb dLa_output_0 rfl (lv_at hl 2 rfl) ?_
  refine lv_iconst (v := 0) hx hb dLa_output_1 (by decide) ?_
  refine lv_aload_n hx hb dLa_output_2 rfl (lv_at hl 0 rfl) ?_
  refine lv_iload_n hx hb dLa_output_3 rfl (lv_at hl 1 rfl) ?_
  by_cases g1 : fPu_hasWord z0 a = true
  · have hR := hR.trans (if_pos g1)
    refine cl_rd (W.runV (As := [.int (a)]) (rest := [.int (0), .ref (o)]) ⟨hx, hb, hml, hown, hts⟩ (kDM_output l D q cI cJ cZ hq z0 a hc g1) (cwV 1 hts (gV wm4_160 wm4_161 wm4_162 wm1_1 wm4_163) rfl rfl rfl (by decide +kernel) ⟨Nat.le_of_ble_eq_true rfl, Nat.le_of_ble_eq_true rfl⟩) (c_preV0 hK hP) rfl rfl hl.1 rfl (lv_room (Nat.le_of_ble_eq_true rfl)) dLa_output_4 ⟨Nat.zero_le _, Nat.zero_le _⟩) ?_
    refine w_pad (cells' := 1) (slots' := 6) (Nat.zero_le _) (Nat.zero_le _) ?_
    refine ow_last (x := (fDM_output z0 a)) hx hb hK hO hS (.inr rfl) dLa_output_7 (fun H locs hO hk hS => ?_)
    have hP := c_up2 hP (fun a ha => hk a (fun h => hoq (h ▸ ha)))
    refine lv_goto hx hb dLa_output_8 rfl ?_
    refine lv_iconst (v := 0) hx hb dLa_output_14 (by decide) ?_
    exact W.iret hx hb hr (fun t ht _ => ⟨by rw [hR]; first | done | rfl, by rw [hR, ht]; dsimp only; exact hP, by rw [hR, ht]; dsimp only; exact hO, hS.F ht⟩) hS.2.2 dLa_output_15
  · have hR := hR.trans (if_neg g1)
    refine ct_row (hpc := 11) (E := "java/lang/IndexOutOfBoundsException") (As := [.int (a)]) (rest := [.int (0), .ref (o)]) (B := hA q o) ⟨hx, hb, hml, hown, hts⟩ (kDM_output_t11 l D q cI cJ cZ hq hfl z0 a g1) (cwV 1 hts (gV wm4_160 wm4_161 wm4_162 wm1_1 wm4_163) rfl rfl rfl (by decide +kernel) ⟨Nat.le_of_ble_eq_true rfl, Nat.le_of_ble_eq_true rfl⟩) (c_preT hK hP (xZ_at hz)) rfl hl.1 (Nat.le_of_ble_eq_true rfl) dLa_output_4 ⟨Nat.le_refl _, Nat.le_refl _⟩ hS (fun _ h => .inl h) htab (⟨by decide, by decide, by decide, "java/lang/IndexOutOfBoundsException", hts _ (List.mem_cons_of_mem _ wm2_2), .inl ⟨exA_at hz.2.2 _ (by decide +kernel), rfl⟩⟩) (hts _ (List.mem_cons_of_mem _ wm2_12)) (fun ex H locs hP hk hS => ?_)
    have hO := hO.kept (hk o hO.lt hoq)
    refine lv_astore_n (lv' := [(3, .ref (ex)), (0, .ref (q 0)), (1, .int (a)), (2, .ref (o))]) hx hb dLa_output_11 rfl hl (by decide) rfl (fun ls hl => ?_)
    refine lv_iconst (v := 1) hx hb dLa_output_12 (by decide) ?_
    exact W.iret hx hb hr (fun t ht _ => ⟨by rw [hR]; first | done | rfl, by rw [hR, ht]; dsimp only; exact hP, by rw [hR, ht]; dsimp only; exact hO, hS.F ht⟩) hS.2.2 dLa_output_13
