theorem dAs_isSymbol_0 : decode ccAs_isSymbol 0 = .ok (.iload_n 0, 1) := by decide +kernel
theorem dAs_isSymbol_1 : decode ccAs_isSymbol 1 = .ok (.sipush 1000, 3) := by decide +kernel
theorem dAs_isSymbol_4 : decode ccAs_isSymbol 4 = .ok (.if_icmp .lt 14, 3) := by decide +kernel
theorem dAs_isSymbol_7 : decode ccAs_isSymbol 7 = .ok (.iload_n 0, 1) := by decide +kernel
theorem dAs_isSymbol_8 : decode ccAs_isSymbol 8 = .ok (.sipush 1020, 3) := by decide +kernel
theorem dAs_isSymbol_11 : decode ccAs_isSymbol 11 = .ok (.if_icmp .ge 7, 3) := by decide +kernel
theorem dAs_isSymbol_14 : decode ccAs_isSymbol 14 = .ok (.iconst 1, 1) := by decide +kernel
theorem dAs_isSymbol_15 : decode ccAs_isSymbol 15 = .ok (.goto 4, 3) := by decide +kernel
theorem dAs_isSymbol_18 : decode ccAs_isSymbol 18 = .ok (.iconst 0, 1) := by decide +kernel
theorem dAs_isSymbol_19 : decode ccAs_isSymbol 19 = .ok (.ireturn, 1) := by decide +kernel
def fAs_isSymbol (a : Int32) : Bool :=
  (if a < (1000 : Int32) then false else (if (1020 : Int32) ≤ a then false else true))
set_option maxHeartbeats 4000000 in
set_option maxRecDepth 100000 in
theorem kAs_isSymbol (l : Launch) (a : Int32)  : Met l yAs_isSymbol wsAs_isSymbol { frames := 0, cells := 0, slots := 0, locals := 0 } (va_Pc [.int (a)] (fun _ => True)) (cQr (some (.int (bb (fAs_isSymbol a))))) 0 0 (fun _ => False) := by
  refine Met.ofW (cc := ccAs_isSymbol) (maxL := 1) (ret := (some .boolean)) (by decide +kernel) rfl ?_
  intro p e s m args below meth c s₁ B hml hv
  obtain ⟨rfl, -⟩ := hv
  have hx := B.exec
  have hb := B.bytes
  have hr := B.returns
  have hts := atoms_spec (ws := wsAs_isSymbol) B.pre
  have hown : s.vm.findClass RAs = some m.cls := findClass_of_methodNamed B.named
  have hlocks := B.notSynchronized
  have hl := lv_entry ([.int (a)]) (n := 1) (Nat.le_of_ble_eq_true rfl)
  rw [lg_entry_eq]
  generalize (lg_sl ([.int (a)]) ++ List.replicate (1 - (lg_sl ([.int (a)])).length) Slot.unset).toArray = ls at hl ⊢
  have hl : lv_has ls 1 [(0, .int (a))] := hl
  have hR := fAs_isSymbol.eq_1 a
  refine lv_iload_n hx hb dAs_isSymbol_0 rfl (lv_at hl 0 rfl) ?_
  refine lv_sipush (v := 1000) hx hb dAs_isSymbol_1 (by decide) ?_
  refine lv_icmp_lt hx hb dAs_isSymbol_4 rfl (fun h4 => ?_) (fun h4 => ?_)
  · have hR := hR.trans (if_pos h4)
    refine lv_iconst (v := 0) hx hb dAs_isSymbol_18 (by decide) ?_
    exact W.zret hx hb hr rfl (fun t ht _ => ⟨by rw [hR]; first | done | rfl, ht⟩) (fun _ h => absurd h List.not_mem_nil) dAs_isSymbol_19
  · have hR := hR.trans (if_neg h4)
    refine lv_iload_n hx hb dAs_isSymbol_7 rfl (lv_at hl 0 rfl) ?_
    refine lv_sipush (v := 1020) hx hb dAs_isSymbol_8 (by decide) ?_
    refine lv_icmp_ge hx hb dAs_isSymbol_11 rfl (fun h11 => ?_) (fun h11 => ?_)
    · have hR := hR.trans (if_pos h11)
      refine lv_iconst (v := 0) hx hb dAs_isSymbol_18 (by decide) ?_
      exact W.zret hx hb hr rfl (fun t ht _ => ⟨by rw [hR]; first | done | rfl, ht⟩) (fun _ h => absurd h List.not_mem_nil) dAs_isSymbol_19
    · have hR := hR.trans (if_neg h11)
      refine lv_iconst (v := 1) hx hb dAs_isSymbol_14 (by decide) ?_
      refine lv_goto hx hb dAs_isSymbol_15 rfl ?_
      exact W.zret hx hb hr rfl (fun t ht _ => ⟨by rw [hR]; first | done | rfl, ht⟩) (fun _ h => absurd h List.not_mem_nil) dAs_isSymbol_19
theorem dAs_isPart_0 : decode ccAs_isPart 0 = .ok (.iload_n 0, 1) := by decide +kernel
theorem dAs_isPart_1 : decode ccAs_isPart 1 = .ok (.iconst (-1), 1) := by decide +kernel
theorem dAs_isPart_2 : decode ccAs_isPart 2 = .ok (.if_icmp .eq 17, 3) := by decide +kernel
theorem dAs_isPart_5 : decode ccAs_isPart 5 = .ok (.iload_n 0, 1) := by decide +kernel
theorem dAs_isPart_6 : decode ccAs_isPart 6 = .ok (.invokestatic 49, 3) := by decide +kernel
theorem dAs_isPart_9 : decode ccAs_isPart 9 = .ok (.ifCond .ne 10, 3) := by decide +kernel
theorem dAs_isPart_12 : decode ccAs_isPart 12 = .ok (.iload_n 0, 1) := by decide +kernel
theorem dAs_isPart_13 : decode ccAs_isPart 13 = .ok (.invokestatic 53, 3) := by decide +kernel
theorem dAs_isPart_16 : decode ccAs_isPart 16 = .ok (.ifCond .eq 7, 3) := by decide +kernel
theorem dAs_isPart_19 : decode ccAs_isPart 19 = .ok (.iconst 1, 1) := by decide +kernel
theorem dAs_isPart_20 : decode ccAs_isPart 20 = .ok (.goto 4, 3) := by decide +kernel
theorem dAs_isPart_23 : decode ccAs_isPart 23 = .ok (.iconst 0, 1) := by decide +kernel
theorem dAs_isPart_24 : decode ccAs_isPart 24 = .ok (.ireturn, 1) := by decide +kernel
def fAs_isPart (a : Int32) : Bool :=
  (if a = ((-1) : Int32) then true else (if (fDr_hasAddress a) = true then true else (if (fAs_isSymbol a) = true then true else false)))
set_option maxHeartbeats 4000000 in
set_option maxRecDepth 100000 in
theorem kAs_isPart (l : Launch) (a : Int32)  : Met l yAs_isPart wsAs_isPart { frames := 1, cells := 0, slots := 0, locals := 20 } (va_Pc [.int (a)] (fun _ => True)) (cQr (some (.int (bb (fAs_isPart a))))) 0 0 (fun _ => False) := by
  refine Met.ofW (cc := ccAs_isPart) (maxL := 1) (ret := (some .boolean)) (by decide +kernel) rfl ?_
  intro p e s m args below meth c s₁ B hml hv
  obtain ⟨rfl, -⟩ := hv
  have hx := B.exec
  have hb := B.bytes
  have hr := B.returns
  have hts := atoms_spec (ws := wsAs_isPart) B.pre
  have hown : s.vm.findClass RAs = some m.cls := findClass_of_methodNamed B.named
  have hlocks := B.notSynchronized
  have hl := lv_entry ([.int (a)]) (n := 1) (Nat.le_of_ble_eq_true rfl)
  rw [lg_entry_eq]
  generalize (lg_sl ([.int (a)]) ++ List.replicate (1 - (lg_sl ([.int (a)])).length) Slot.unset).toArray = ls at hl ⊢
  have hl : lv_has ls 1 [(0, .int (a))] := hl
  have hR := fAs_isPart.eq_1 a
  refine lv_iload_n hx hb dAs_isPart_0 rfl (lv_at hl 0 rfl) ?_
  refine lv_iconst (v := (-1)) hx hb dAs_isPart_1 (by decide) ?_
  refine lv_icmp_eq hx hb dAs_isPart_2 rfl (fun h2 => ?_) (fun h2 => ?_)
  · have hR := hR.trans (if_pos h2)
    refine lv_iconst (v := 1) hx hb dAs_isPart_19 (by decide) ?_
    refine lv_goto hx hb dAs_isPart_20 rfl ?_
    exact W.zret hx hb hr rfl (fun t ht _ => ⟨by rw [hR]; first | done | rfl, ht⟩) (fun _ h => absurd h List.not_mem_nil) dAs_isPart_24
  · have hR := hR.trans (if_neg h2)
    refine lv_iload_n hx hb dAs_isPart_5 rfl (lv_at hl 0 rfl) ?_
    refine cl_rd (W.runS (As := [.int (a)]) (rest := []) ⟨hx, hb, hml, hown, hts⟩ (kDr_hasAddress l a) (va_cwS 1 hts (gS wm2_190 wm2_9 wm1_2 wm2_10) rfl rfl rfl (by decide +kernel) ⟨Nat.le_of_ble_eq_true rfl, Nat.le_of_ble_eq_true rfl⟩) (preT) rfl rfl hl.1 rfl (lv_room (Nat.le_of_ble_eq_true rfl)) dAs_isPart_6 ⟨Nat.le_refl _, Nat.le_refl _⟩) ?_
    refine wz_ifne hx hb dAs_isPart_9 rfl (fun h9 => ?_) (fun h9 => ?_)
    · have hR := hR.trans (if_pos h9)
      refine lv_iconst (v := 1) hx hb dAs_isPart_19 (by decide) ?_
      refine lv_goto hx hb dAs_isPart_20 rfl ?_
      exact W.zret hx hb hr rfl (fun t ht _ => ⟨by rw [hR]; first | done | rfl, ht⟩) (fun _ h => absurd h List.not_mem_nil) dAs_isPart_24
    · have hR := hR.trans (if_neg h9)
      refine lv_iload_n hx hb dAs_isPart_12 rfl (lv_at hl 0 rfl) ?_
      refine cl_rd (W.runS (As := [.int (a)]) (rest := []) ⟨hx, hb, hml, hown, hts⟩ (kAs_isSymbol l a) (va_cwS 1 hts (gS wm2_191 wm2_192 wm1_8 wm2_193) rfl rfl rfl (by decide +kernel) ⟨Nat.le_of_ble_eq_true rfl, Nat.le_of_ble_eq_true rfl⟩) (preT) rfl rfl hl.1 rfl (lv_room (Nat.le_of_ble_eq_true rfl)) dAs_isPart_13 ⟨Nat.le_refl _, Nat.le_refl _⟩) ?_
      refine wz_ifeq hx hb dAs_isPart_16 rfl (fun h16 => ?_) (fun h16 => ?_)
      · have hR := hR.trans (if_neg h16)
        refine lv_iconst (v := 0) hx hb dAs_isPart_23 (by decide) ?_
        exact W.zret hx hb hr rfl (fun t ht _ => ⟨by rw [hR]; first | done | rfl, ht⟩) (fun _ h => absurd h List.not_mem_nil) dAs_isPart_24
      · have hR := hR.trans (if_pos h16)
        refine lv_iconst (v := 1) hx hb dAs_isPart_19 (by decide) ?_
        refine lv_goto hx hb dAs_isPart_20 rfl ?_
        exact W.zret hx hb hr rfl (fun t ht _ => ⟨by rw [hR]; first | done | rfl, ht⟩) (fun _ h => absurd h List.not_mem_nil) dAs_isPart_24
theorem dAs_isDataPart_0 : decode ccAs_isDataPart 0 = .ok (.iload_n 0, 1) := by decide +kernel
theorem dAs_isDataPart_1 : decode ccAs_isDataPart 1 = .ok (.invokestatic 56, 3) := by decide +kernel
theorem dAs_isDataPart_4 : decode ccAs_isDataPart 4 = .ok (.ifCond .eq 24, 3) := by decide +kernel
theorem dAs_isDataPart_7 : decode ccAs_isDataPart 7 = .ok (.iload_n 1, 1) := by decide +kernel
theorem dAs_isDataPart_8 : decode ccAs_isDataPart 8 = .ok (.iconst (-1), 1) := by decide +kernel
theorem dAs_isDataPart_9 : decode ccAs_isDataPart 9 = .ok (.if_icmp .eq 13, 3) := by decide +kernel
theorem dAs_isDataPart_12 : decode ccAs_isDataPart 12 = .ok (.iload_n 1, 1) := by decide +kernel
theorem dAs_isDataPart_13 : decode ccAs_isDataPart 13 = .ok (.ifCond .lt 13, 3) := by decide +kernel
theorem dAs_isDataPart_16 : decode ccAs_isDataPart 16 = .ok (.iload_n 1, 1) := by decide +kernel
theorem dAs_isDataPart_17 : decode ccAs_isDataPart 17 = .ok (.bipush 9, 2) := by decide +kernel
theorem dAs_isDataPart_19 : decode ccAs_isDataPart 19 = .ok (.if_icmp .gt 7, 3) := by decide +kernel
theorem dAs_isDataPart_22 : decode ccAs_isDataPart 22 = .ok (.iconst 1, 1) := by decide +kernel
theorem dAs_isDataPart_23 : decode ccAs_isDataPart 23 = .ok (.goto 4, 3) := by decide +kernel
theorem dAs_isDataPart_26 : decode ccAs_isDataPart 26 = .ok (.iconst 0, 1) := by decide +kernel
theorem dAs_isDataPart_27 : decode ccAs_isDataPart 27 = .ok (.ireturn, 1) := by decide +kernel
theorem dAs_isDataPart_28 : decode ccAs_isDataPart 28 = .ok (.iload_n 1, 1) := by decide +kernel
theorem dAs_isDataPart_29 : decode ccAs_isDataPart 29 = .ok (.invokestatic 61, 3) := by decide +kernel
theorem dAs_isDataPart_32 : decode ccAs_isDataPart 32 = .ok (.ireturn, 1) := by decide +kernel
def fAs_isDataPart (o : Int32) (a : Int32) : Bool :=
  (if (fOp_shifts o) = true then (if a = ((-1) : Int32) then true else (if a < 0 then false else (if (9 : Int32) < a then false else true))) else fAs_isPart a)
set_option maxHeartbeats 4000000 in
set_option maxRecDepth 100000 in
theorem kAs_isDataPart (l : Launch) (o : Int32) (a : Int32)  : Met l yAs_isDataPart wsAs_isDataPart { frames := 3, cells := 0, slots := 0, locals := 60 } (va_Pc [.int (o), .int (a)] (fun _ => True)) (cQr (some (.int (bb (fAs_isDataPart o a))))) 0 0 (fun _ => False) := by
  refine Met.ofW (cc := ccAs_isDataPart) (maxL := 2) (ret := (some .boolean)) (by decide +kernel) rfl ?_
  intro p e s m args below meth c s₁ B hml hv
  obtain ⟨rfl, -⟩ := hv
  have hx := B.exec
  have hb := B.bytes
  have hr := B.returns
  have hts := atoms_spec (ws := wsAs_isDataPart) B.pre
  have hown : s.vm.findClass RAs = some m.cls := findClass_of_methodNamed B.named
  have hlocks := B.notSynchronized
  have hl := lv_entry ([.int (o), .int (a)]) (n := 2) (Nat.le_of_ble_eq_true rfl)
  rw [lg_entry_eq]
  generalize (lg_sl ([.int (o), .int (a)]) ++ List.replicate (2 - (lg_sl ([.int (o), .int (a)])).length) Slot.unset).toArray = ls at hl ⊢
  have hl : lv_has ls 2 [(0, .int (o)), (1, .int (a))] := hl
  have hR := fAs_isDataPart.eq_1 o a
  refine lv_iload_n hx hb dAs_isDataPart_0 rfl (lv_at hl 0 rfl) ?_
  refine cl_rd (W.runS (As := [.int (o)]) (rest := []) ⟨hx, hb, hml, hown, hts⟩ (kOp_shifts l o) (va_cwS 1 hts (gS wm2_197 wm2_198 wm1_17 wm2_199) rfl rfl rfl (by decide +kernel) ⟨Nat.le_of_ble_eq_true rfl, Nat.le_of_ble_eq_true rfl⟩) (preT) rfl rfl hl.1 rfl (lv_room (Nat.le_of_ble_eq_true rfl)) dAs_isDataPart_1 ⟨Nat.le_refl _, Nat.le_refl _⟩) ?_
  refine wz_ifeq hx hb dAs_isDataPart_4 rfl (fun h4 => ?_) (fun h4 => ?_)
  · have hR := hR.trans (if_neg h4)
    refine lv_iload_n hx hb dAs_isDataPart_28 rfl (lv_at hl 1 rfl) ?_
    refine cl_rd (W.runS (As := [.int (a)]) (rest := []) ⟨hx, hb, hml, hown, hts⟩ (kAs_isPart l a) (va_cwS 1 hts (gS wm2_200 wm2_188 wm1_8 wm2_189) rfl rfl rfl (by decide +kernel) ⟨Nat.le_of_ble_eq_true rfl, Nat.le_of_ble_eq_true rfl⟩) (preT) rfl rfl hl.1 rfl (lv_room (Nat.le_of_ble_eq_true rfl)) dAs_isDataPart_29 ⟨Nat.le_refl _, Nat.le_refl _⟩) ?_
    exact W.zret hx hb hr (nz_b _) (fun t ht _ => ⟨by rw [hR]; first | done | rfl, ht⟩) (fun _ h => absurd h List.not_mem_nil) dAs_isDataPart_32
  · have hR := hR.trans (if_pos h4)
    refine lv_iload_n hx hb dAs_isDataPart_7 rfl (lv_at hl 1 rfl) ?_
    refine lv_iconst (v := (-1)) hx hb dAs_isDataPart_8 (by decide) ?_
    refine lv_icmp_eq hx hb dAs_isDataPart_9 rfl (fun h9 => ?_) (fun h9 => ?_)
    · have hR := hR.trans (if_pos h9)
      refine lv_iconst (v := 1) hx hb dAs_isDataPart_22 (by decide) ?_
      refine lv_goto hx hb dAs_isDataPart_23 rfl ?_
      exact W.zret hx hb hr rfl (fun t ht _ => ⟨by rw [hR]; first | done | rfl, ht⟩) (fun _ h => absurd h List.not_mem_nil) dAs_isDataPart_27
    · have hR := hR.trans (if_neg h9)
      refine lv_iload_n hx hb dAs_isDataPart_12 rfl (lv_at hl 1 rfl) ?_
      refine lv_if_lt hx hb dAs_isDataPart_13 rfl (fun h13 => ?_) (fun h13 => ?_)
      · have hR := hR.trans (if_pos h13)
        refine lv_iconst (v := 0) hx hb dAs_isDataPart_26 (by decide) ?_
        exact W.zret hx hb hr rfl (fun t ht _ => ⟨by rw [hR]; first | done | rfl, ht⟩) (fun _ h => absurd h List.not_mem_nil) dAs_isDataPart_27
      · have hR := hR.trans (if_neg h13)
        refine lv_iload_n hx hb dAs_isDataPart_16 rfl (lv_at hl 1 rfl) ?_
        refine lv_bipush (v := 9) hx hb dAs_isDataPart_17 (by decide) ?_
        refine lv_icmp_gt hx hb dAs_isDataPart_19 rfl (fun h19 => ?_) (fun h19 => ?_)
        · have hR := hR.trans (if_pos h19)
          refine lv_iconst (v := 0) hx hb dAs_isDataPart_26 (by decide) ?_
          exact W.zret hx hb hr rfl (fun t ht _ => ⟨by rw [hR]; first | done | rfl, ht⟩) (fun _ h => absurd h List.not_mem_nil) dAs_isDataPart_27
        · have hR := hR.trans (if_neg h19)
          refine lv_iconst (v := 1) hx hb dAs_isDataPart_22 (by decide) ?_
          refine lv_goto hx hb dAs_isDataPart_23 rfl ?_
          exact W.zret hx hb hr rfl (fun t ht _ => ⟨by rw [hR]; first | done | rfl, ht⟩) (fun _ h => absurd h List.not_mem_nil) dAs_isDataPart_27
theorem dAs_hasSymbol_0 : decode ccAs_hasSymbol 0 = .ok (.iload_n 0, 1) := by decide +kernel
theorem dAs_hasSymbol_1 : decode ccAs_hasSymbol 1 = .ok (.ifCond .lt 13, 3) := by decide +kernel
theorem dAs_hasSymbol_4 : decode ccAs_hasSymbol 4 = .ok (.iload_n 0, 1) := by decide +kernel
theorem dAs_hasSymbol_5 : decode ccAs_hasSymbol 5 = .ok (.bipush 20, 2) := by decide +kernel
theorem dAs_hasSymbol_7 : decode ccAs_hasSymbol 7 = .ok (.if_icmp .ge 7, 3) := by decide +kernel
theorem dAs_hasSymbol_10 : decode ccAs_hasSymbol 10 = .ok (.iconst 1, 1) := by decide +kernel
theorem dAs_hasSymbol_11 : decode ccAs_hasSymbol 11 = .ok (.goto 4, 3) := by decide +kernel
theorem dAs_hasSymbol_14 : decode ccAs_hasSymbol 14 = .ok (.iconst 0, 1) := by decide +kernel
theorem dAs_hasSymbol_15 : decode ccAs_hasSymbol 15 = .ok (.ireturn, 1) := by decide +kernel
def fAs_hasSymbol (a : Int32) : Bool :=
  (if a < 0 then false else (if (20 : Int32) ≤ a then false else true))
set_option maxHeartbeats 4000000 in
set_option maxRecDepth 100000 in
theorem kAs_hasSymbol (l : Launch) (a : Int32)  : Met l yAs_hasSymbol wsAs_hasSymbol { frames := 0, cells := 0, slots := 0, locals := 0 } (va_Pc [.int (a)] (fun _ => True)) (cQr (some (.int (bb (fAs_hasSymbol a))))) 0 0 (fun _ => False) := by
  refine Met.ofW (cc := ccAs_hasSymbol) (maxL := 1) (ret := (some .boolean)) (by decide +kernel) rfl ?_
  intro p e s m args below meth c s₁ B hml hv
  obtain ⟨rfl, -⟩ := hv
  have hx := B.exec
  have hb := B.bytes
  have hr := B.returns
  have hts := atoms_spec (ws := wsAs_hasSymbol) B.pre
  have hown : s.vm.findClass RAs = some m.cls := findClass_of_methodNamed B.named
  have hlocks := B.notSynchronized
  have hl := lv_entry ([.int (a)]) (n := 1) (Nat.le_of_ble_eq_true rfl)
  rw [lg_entry_eq]
  generalize (lg_sl ([.int (a)]) ++ List.replicate (1 - (lg_sl ([.int (a)])).length) Slot.unset).toArray = ls at hl ⊢
  have hl : lv_has ls 1 [(0, .int (a))] := hl
  have hR := fAs_hasSymbol.eq_1 a
  refine lv_iload_n hx hb dAs_hasSymbol_0 rfl (lv_at hl 0 rfl) ?_
  refine lv_if_lt hx hb dAs_hasSymbol_1 rfl (fun h1 => ?_) (fun h1 => ?_)
  · have hR := hR.trans (if_pos h1)
    refine lv_iconst (v := 0) hx hb dAs_hasSymbol_14 (by decide) ?_
    exact W.zret hx hb hr rfl (fun t ht _ => ⟨by rw [hR]; first | done | rfl, ht⟩) (fun _ h => absurd h List.not_mem_nil) dAs_hasSymbol_15
  · have hR := hR.trans (if_neg h1)
    refine lv_iload_n hx hb dAs_hasSymbol_4 rfl (lv_at hl 0 rfl) ?_
    refine lv_bipush (v := 20) hx hb dAs_hasSymbol_5 (by decide) ?_
    refine lv_icmp_ge hx hb dAs_hasSymbol_7 rfl (fun h7 => ?_) (fun h7 => ?_)
    · have hR := hR.trans (if_pos h7)
      refine lv_iconst (v := 0) hx hb dAs_hasSymbol_14 (by decide) ?_
      exact W.zret hx hb hr rfl (fun t ht _ => ⟨by rw [hR]; first | done | rfl, ht⟩) (fun _ h => absurd h List.not_mem_nil) dAs_hasSymbol_15
    · have hR := hR.trans (if_neg h7)
      refine lv_iconst (v := 1) hx hb dAs_hasSymbol_10 (by decide) ?_
      refine lv_goto hx hb dAs_hasSymbol_11 rfl ?_
      exact W.zret hx hb hr rfl (fun t ht _ => ⟨by rw [hR]; first | done | rfl, ht⟩) (fun _ h => absurd h List.not_mem_nil) dAs_hasSymbol_15
theorem dAs_isFull_0 : decode ccAs_isFull 0 = .ok (.aload_n 0, 1) := by decide +kernel
theorem dAs_isFull_1 : decode ccAs_isFull 1 = .ok (.getfield 64, 3) := by decide +kernel
theorem dAs_isFull_4 : decode ccAs_isFull 4 = .ok (.bipush 40, 2) := by decide +kernel
theorem dAs_isFull_6 : decode ccAs_isFull 6 = .ok (.if_icmp .lt 7, 3) := by decide +kernel
theorem dAs_isFull_9 : decode ccAs_isFull 9 = .ok (.iconst 1, 1) := by decide +kernel
theorem dAs_isFull_10 : decode ccAs_isFull 10 = .ok (.goto 4, 3) := by decide +kernel
theorem dAs_isFull_13 : decode ccAs_isFull 13 = .ok (.iconst 0, 1) := by decide +kernel
theorem dAs_isFull_14 : decode ccAs_isFull 14 = .ok (.ireturn, 1) := by decide +kernel
def fAs_isFull (z0 : SC)  : Bool :=
  (if (c_acount z0) < (40 : Int32) then false else true)
set_option maxHeartbeats 4000000 in
set_option maxRecDepth 100000 in
theorem kAs_isFull (l : Launch) (D : va_G) (q : Nat → Nat) (cI cJ cZ : ClassId) (hq : c_inj q) (z0 : SC)   : Met l yAs_isFull wsAs_isFull { frames := 0, cells := 0, slots := 0, locals := 0 } (va_Pc [.ref (q 6)] (c_C D q cI cJ cZ z0)) (cQr (some (.int (bb (fAs_isFull z0))))) 0 0 (fun _ => False) := by
  refine Met.ofW (cc := ccAs_isFull) (maxL := 1) (ret := (some .boolean)) (by decide +kernel) rfl ?_
  intro p e s m args below meth c s₁ B hml hv
  obtain ⟨rfl, hP, hK⟩ := hv
  have hx := B.exec
  have hb := B.bytes
  have hr := B.returns
  have hts := atoms_spec (ws := wsAs_isFull) B.pre
  have hown : s.vm.findClass RAs = some m.cls := findClass_of_methodNamed B.named
  have hlocks := B.notSynchronized
  have w0 := hts (.fieldLink RAs 64 "DrumMachine$Assembler" "count" "I") (List.mem_cons_of_mem _ wm1_155)
  have i0 : ∀ w ∈ u_ws RAs TAs 11, w ∈ wsAs_isFull := fun w h => List.mem_cons_of_mem _ (inAAs w h)
  have hl := lv_entry ([.ref (q 6)]) (n := 1) (Nat.le_of_ble_eq_true rfl)
  rw [lg_entry_eq]
  generalize (lg_sl ([.ref (q 6)]) ++ List.replicate (1 - (lg_sl ([.ref (q 6)])).length) Slot.unset).toArray = ls at hl ⊢
  have hl : lv_has ls 1 [(0, .ref (q 6))] := hl
  have hR := fAs_isFull.eq_1 z0
  refine lv_aload_n hx hb dAs_isFull_0 rfl (lv_at hl 0 rfl) ?_
  refine cg6_count hx hb hts i0 hown hK hP w0 dAs_isFull_1 ?_
  refine lv_bipush (v := 40) hx hb dAs_isFull_4 (by decide) ?_
  refine lv_icmp_lt hx hb dAs_isFull_6 rfl (fun h6 => ?_) (fun h6 => ?_)
  · have hR := hR.trans (if_pos h6)
    refine lv_iconst (v := 0) hx hb dAs_isFull_13 (by decide) ?_
    exact W.zret hx hb hr rfl (fun t ht _ => ⟨by rw [hR]; first | done | rfl, ht⟩) (fun _ h => absurd h List.not_mem_nil) dAs_isFull_14
  · have hR := hR.trans (if_neg h6)
    refine lv_iconst (v := 1) hx hb dAs_isFull_9 (by decide) ?_
    refine lv_goto hx hb dAs_isFull_10 rfl ?_
    exact W.zret hx hb hr rfl (fun t ht _ => ⟨by rw [hR]; first | done | rfl, ht⟩) (fun _ h => absurd h List.not_mem_nil) dAs_isFull_14
theorem dAs_isEmpty_0 : decode ccAs_isEmpty 0 = .ok (.aload_n 0, 1) := by decide +kernel
theorem dAs_isEmpty_1 : decode ccAs_isEmpty 1 = .ok (.getfield 64, 3) := by decide +kernel
theorem dAs_isEmpty_4 : decode ccAs_isEmpty 4 = .ok (.ifCond .ne 7, 3) := by decide +kernel
theorem dAs_isEmpty_7 : decode ccAs_isEmpty 7 = .ok (.iconst 1, 1) := by decide +kernel
theorem dAs_isEmpty_8 : decode ccAs_isEmpty 8 = .ok (.goto 4, 3) := by decide +kernel
theorem dAs_isEmpty_11 : decode ccAs_isEmpty 11 = .ok (.iconst 0, 1) := by decide +kernel
theorem dAs_isEmpty_12 : decode ccAs_isEmpty 12 = .ok (.ireturn, 1) := by decide +kernel
def fAs_isEmpty (z0 : SC)  : Bool :=
  (if (c_acount z0) = 0 then true else false)
set_option maxHeartbeats 4000000 in
set_option maxRecDepth 100000 in
theorem kAs_isEmpty (l : Launch) (D : va_G) (q : Nat → Nat) (cI cJ cZ : ClassId) (hq : c_inj q) (z0 : SC)   : Met l yAs_isEmpty wsAs_isEmpty { frames := 0, cells := 0, slots := 0, locals := 0 } (va_Pc [.ref (q 6)] (c_C D q cI cJ cZ z0)) (cQr (some (.int (bb (fAs_isEmpty z0))))) 0 0 (fun _ => False) := by
  refine Met.ofW (cc := ccAs_isEmpty) (maxL := 1) (ret := (some .boolean)) (by decide +kernel) rfl ?_
  intro p e s m args below meth c s₁ B hml hv
  obtain ⟨rfl, hP, hK⟩ := hv
  have hx := B.exec
  have hb := B.bytes
  have hr := B.returns
  have hts := atoms_spec (ws := wsAs_isEmpty) B.pre
  have hown : s.vm.findClass RAs = some m.cls := findClass_of_methodNamed B.named
  have hlocks := B.notSynchronized
  have w0 := hts (.fieldLink RAs 64 "DrumMachine$Assembler" "count" "I") (List.mem_cons_of_mem _ wm1_155)
  have i0 : ∀ w ∈ u_ws RAs TAs 11, w ∈ wsAs_isEmpty := fun w h => List.mem_cons_of_mem _ (inAAs w h)
  have hl := lv_entry ([.ref (q 6)]) (n := 1) (Nat.le_of_ble_eq_true rfl)
  rw [lg_entry_eq]
  generalize (lg_sl ([.ref (q 6)]) ++ List.replicate (1 - (lg_sl ([.ref (q 6)])).length) Slot.unset).toArray = ls at hl ⊢
  have hl : lv_has ls 1 [(0, .ref (q 6))] := hl
  have hR := fAs_isEmpty.eq_1 z0
  refine lv_aload_n hx hb dAs_isEmpty_0 rfl (lv_at hl 0 rfl) ?_
  refine cg6_count hx hb hts i0 hown hK hP w0 dAs_isEmpty_1 ?_
  refine lv_if_ne hx hb dAs_isEmpty_4 rfl (fun h4 => ?_) (fun h4 => ?_)
  · have hR := hR.trans (if_neg h4)
    refine lv_iconst (v := 0) hx hb dAs_isEmpty_11 (by decide) ?_
    exact W.zret hx hb hr rfl (fun t ht _ => ⟨by rw [hR]; first | done | rfl, ht⟩) (fun _ h => absurd h List.not_mem_nil) dAs_isEmpty_12
  · have hR := hR.trans (if_pos h4)
    refine lv_iconst (v := 1) hx hb dAs_isEmpty_7 (by decide) ?_
    refine lv_goto hx hb dAs_isEmpty_8 rfl ?_
    exact W.zret hx hb hr rfl (fun t ht _ => ⟨by rw [hR]; first | done | rfl, ht⟩) (fun _ h => absurd h List.not_mem_nil) dAs_isEmpty_12
theorem dAs_addLine_0 : decode ccAs_addLine 0 = .ok (.aload_n 0, 1) := by decide +kernel
theorem dAs_addLine_1 : decode ccAs_addLine 1 = .ok (.getfield 64, 3) := by decide +kernel
theorem dAs_addLine_4 : decode ccAs_addLine 4 = .ok (.istore 5, 2) := by decide +kernel
theorem dAs_addLine_6 : decode ccAs_addLine 6 = .ok (.aload_n 0, 1) := by decide +kernel
theorem dAs_addLine_7 : decode ccAs_addLine 7 = .ok (.getfield 9, 3) := by decide +kernel
theorem dAs_addLine_10 : decode ccAs_addLine 10 = .ok (.iload 5, 2) := by decide +kernel
theorem dAs_addLine_12 : decode ccAs_addLine 12 = .ok (.iload_n 1, 1) := by decide +kernel
theorem dAs_addLine_13 : decode ccAs_addLine 13 = .ok (.iastore, 1) := by decide +kernel
theorem dAs_addLine_14 : decode ccAs_addLine 14 = .ok (.aload_n 0, 1) := by decide +kernel
theorem dAs_addLine_15 : decode ccAs_addLine 15 = .ok (.getfield 13, 3) := by decide +kernel
theorem dAs_addLine_18 : decode ccAs_addLine 18 = .ok (.iload 5, 2) := by decide +kernel
theorem dAs_addLine_20 : decode ccAs_addLine 20 = .ok (.iload_n 2, 1) := by decide +kernel
theorem dAs_addLine_21 : decode ccAs_addLine 21 = .ok (.iastore, 1) := by decide +kernel
theorem dAs_addLine_22 : decode ccAs_addLine 22 = .ok (.aload_n 0, 1) := by decide +kernel
theorem dAs_addLine_23 : decode ccAs_addLine 23 = .ok (.getfield 16, 3) := by decide +kernel
theorem dAs_addLine_26 : decode ccAs_addLine 26 = .ok (.iload 5, 2) := by decide +kernel
theorem dAs_addLine_28 : decode ccAs_addLine 28 = .ok (.iload_n 3, 1) := by decide +kernel
theorem dAs_addLine_29 : decode ccAs_addLine 29 = .ok (.iastore, 1) := by decide +kernel
theorem dAs_addLine_30 : decode ccAs_addLine 30 = .ok (.aload_n 0, 1) := by decide +kernel
theorem dAs_addLine_31 : decode ccAs_addLine 31 = .ok (.getfield 19, 3) := by decide +kernel
theorem dAs_addLine_34 : decode ccAs_addLine 34 = .ok (.iload 5, 2) := by decide +kernel
theorem dAs_addLine_36 : decode ccAs_addLine 36 = .ok (.iload 4, 2) := by decide +kernel
theorem dAs_addLine_38 : decode ccAs_addLine 38 = .ok (.iastore, 1) := by decide +kernel
theorem dAs_addLine_39 : decode ccAs_addLine 39 = .ok (.aload_n 0, 1) := by decide +kernel
theorem dAs_addLine_40 : decode ccAs_addLine 40 = .ok (.dup, 1) := by decide +kernel
theorem dAs_addLine_41 : decode ccAs_addLine 41 = .ok (.getfield 64, 3) := by decide +kernel
theorem dAs_addLine_44 : decode ccAs_addLine 44 = .ok (.iconst 1, 1) := by decide +kernel
theorem dAs_addLine_45 : decode ccAs_addLine 45 = .ok (.iadd, 1) := by decide +kernel
theorem dAs_addLine_46 : decode ccAs_addLine 46 = .ok (.putfield 64, 3) := by decide +kernel
theorem dAs_addLine_49 : decode ccAs_addLine 49 = .ok (.iload 5, 2) := by decide +kernel
theorem dAs_addLine_51 : decode ccAs_addLine 51 = .ok (.ireturn, 1) := by decide +kernel
def fAs_addLine (z0 : SC) (a : Int32) (o : Int32) (d : Int32) (x : Int32) : Int32 × SC :=
  (c_acount z0, c_acount_s (c_nparts_s (c_dparts_s (c_ops_s (c_lparts_s z0 (upd (c_lparts z0) ((c_acount z0).toNatClampNeg) a)) (upd (c_ops z0) ((c_acount z0).toNatClampNeg) o)) (upd (c_dparts z0) ((c_acount z0).toNatClampNeg) d)) (upd (c_nparts z0) ((c_acount z0).toNatClampNeg) x)) ((c_acount z0) + 1))
set_option maxHeartbeats 4000000 in
set_option maxRecDepth 100000 in
theorem kAs_addLine (l : Launch) (D : va_G) (q : Nat → Nat) (cI cJ cZ : ClassId) (hq : c_inj q) (z0 : SC) (a : Int32) (o : Int32) (d : Int32) (x : Int32) (hi : vp_in (c_acount z0) 40) : Met l yAs_addLine wsAs_addLine { frames := 0, cells := 0, slots := 0, locals := 0 } (va_Pc [.ref (q 6), .int (a), .int (o), .int (d), .int (x)] (c_C D q cI cJ cZ z0)) (cQw (some (.int ((fAs_addLine z0 a o d x).1))) (c_W D q cI cJ cZ (fAs_addLine z0 a o d x).2) (c_qs q)) 0 0 (c_qs q) := by
  refine Met.ofW (cc := ccAs_addLine) (maxL := 6) (ret := (some .int)) (by decide +kernel) rfl ?_
  intro p e s m args below meth c s₁ B hml hv
  obtain ⟨rfl, hP, hK⟩ := hv
  have hx := B.exec
  have hb := B.bytes
  have hr := B.returns
  have hts := atoms_spec (ws := wsAs_addLine) B.pre
  have hown : s.vm.findClass RAs = some m.cls := findClass_of_methodNamed B.named
  have hlocks := B.notSynchronized
  have w0 := hts (.fieldLink RAs 64 "DrumMachine$Assembler" "count" "I") (List.mem_cons_of_mem _ wm1_155)
  have w1 := hts (.fieldLink RAs 9 "DrumMachine$Assembler" "locationParts" "[I") (List.mem_cons_of_mem _ wm1_145)
  have w2 := hts (.fieldLink RAs 13 "DrumMachine$Assembler" "operations" "[I") (List.mem_cons_of_mem _ wm1_146)
  have w3 := hts (.fieldLink RAs 16 "DrumMachine$Assembler" "dataParts" "[I") (List.mem_cons_of_mem _ wm1_147)
  have w4 := hts (.fieldLink RAs 19 "DrumMachine$Assembler" "nextParts" "[I") (List.mem_cons_of_mem _ wm1_148)
  have i0 : ∀ w ∈ u_ws RAs TAs 11, w ∈ wsAs_addLine := fun w h => List.mem_cons_of_mem _ (inAAs w h)
  have hS : va_S (c_qs q) s.heap s.heap [] := va_S.rf
  have hl := lv_entry ([.ref (q 6), .int (a), .int (o), .int (d), .int (x)]) (n := 6) (Nat.le_of_ble_eq_true rfl)
  rw [lg_entry_eq]
  generalize (lg_sl ([.ref (q 6), .int (a), .int (o), .int (d), .int (x)]) ++ List.replicate (6 - (lg_sl ([.ref (q 6), .int (a), .int (o), .int (d), .int (x)])).length) Slot.unset).toArray = ls at hl ⊢
  have hl : lv_has ls 6 [(0, .ref (q 6)), (1, .int (a)), (2, .int (o)), (3, .int (d)), (4, .int (x))] := hl
  have hR := fAs_addLine.eq_1 z0 a o d x
  refine lv_aload_n hx hb dAs_addLine_0 rfl (lv_at hl 0 rfl) ?_
  refine cg6_count hx hb hts i0 hown hK hP w0 dAs_addLine_1 ?_
  refine lv_istore (lv' := [(5, .int (c_acount z0)), (0, .ref (q 6)), (1, .int (a)), (2, .int (o)), (3, .int (d)), (4, .int (x))]) hx hb dAs_addLine_4 hl (by decide) rfl (fun ls hl => ?_)
  refine lv_aload_n hx hb dAs_addLine_6 rfl (lv_at hl 1 rfl) ?_
  refine cg6_locationParts hx hb hts i0 hown hK hP w1 dAs_addLine_7 ?_
  refine lv_iload hx hb dAs_addLine_10 (lv_at hl 0 rfl) ?_
  refine lv_iload_n hx hb dAs_addLine_12 rfl (lv_at hl 2 rfl) ?_
  refine cs_lparts a hq hS hx hb hK hP hi dAs_addLine_13 (fun H locs hP hS => ?_)
  refine lv_aload_n hx hb dAs_addLine_14 rfl (lv_at hl 1 rfl) ?_
  refine cg6_operations hx hb hts i0 hown hK hP w2 dAs_addLine_15 ?_
  refine lv_iload hx hb dAs_addLine_18 (lv_at hl 0 rfl) ?_
  refine lv_iload_n hx hb dAs_addLine_20 rfl (lv_at hl 3 rfl) ?_
  refine cs_ops_e o (f := c_ops z0) ((c_ops_lparts _ _).trans (rfl)) hq hS hx hb hK hP hi dAs_addLine_21 (fun H locs hP hS => ?_)
  refine lv_aload_n hx hb dAs_addLine_22 rfl (lv_at hl 1 rfl) ?_
  refine cg6_dataParts hx hb hts i0 hown hK hP w3 dAs_addLine_23 ?_
  refine lv_iload hx hb dAs_addLine_26 (lv_at hl 0 rfl) ?_
  refine lv_iload_n hx hb dAs_addLine_28 rfl (lv_at hl 4 rfl) ?_
  refine cs_dparts_e d (f := c_dparts z0) ((c_dparts_ops _ _).trans ((c_dparts_lparts _ _).trans (rfl))) hq hS hx hb hK hP hi dAs_addLine_29 (fun H locs hP hS => ?_)
  refine lv_aload_n hx hb dAs_addLine_30 rfl (lv_at hl 1 rfl) ?_
  refine cg6_nextParts hx hb hts i0 hown hK hP w4 dAs_addLine_31 ?_
  refine lv_iload hx hb dAs_addLine_34 (lv_at hl 0 rfl) ?_
  refine lv_iload hx hb dAs_addLine_36 (lv_at hl 5 rfl) ?_
  refine cs_nparts_e x (f := c_nparts z0) ((c_nparts_dparts _ _).trans ((c_nparts_ops _ _).trans ((c_nparts_lparts _ _).trans (rfl)))) hq hS hx hb hK hP hi dAs_addLine_38 (fun H locs hP hS => ?_)
  refine lv_aload_n hx hb dAs_addLine_39 rfl (lv_at hl 1 rfl) ?_
  refine lv_dup hx hb dAs_addLine_40 rfl ?_
  refine cg6_count_e (v := c_acount z0) ((c_acount_nparts _ _).trans ((c_acount_dparts _ _).trans ((c_acount_ops _ _).trans ((c_acount_lparts _ _).trans (rfl))))) hx hb hts i0 hown hK hP w0 dAs_addLine_41 ?_
  refine lv_iconst (v := 1) hx hb dAs_addLine_44 (by decide) ?_
  refine lv_iadd hx hb dAs_addLine_45 ?_
  refine cp6_count ((c_acount z0) + 1) hq hS hx hb hts i0 hown hK hP w0 dAs_addLine_46 (fun H locs hP hS => ?_)
  refine lv_iload hx hb dAs_addLine_49 (lv_at hl 0 rfl) ?_
  exact W.iret hx hb hr (fun t ht _ => ⟨by rw [hR]; first | done | rfl, by rw [hR, ht]; exact hP, hS.F ht⟩) hS.2.2 dAs_addLine_51
theorem dAs_markReserved_0 : decode ccAs_markReserved 0 = .ok (.aload_n 0, 1) := by decide +kernel
theorem dAs_markReserved_1 : decode ccAs_markReserved 1 = .ok (.getfield 36, 3) := by decide +kernel
theorem dAs_markReserved_4 : decode ccAs_markReserved 4 = .ok (.iload_n 1, 1) := by decide +kernel
theorem dAs_markReserved_5 : decode ccAs_markReserved 5 = .ok (.iconst 1, 1) := by decide +kernel
theorem dAs_markReserved_6 : decode ccAs_markReserved 6 = .ok (.bastore, 1) := by decide +kernel
theorem dAs_markReserved_7 : decode ccAs_markReserved 7 = .ok (.return_, 1) := by decide +kernel
def fAs_markReserved (z0 : SC) (a : Int32) : SC :=
  c_resv_s z0 (updB (c_resv z0) a.toNatClampNeg true)
set_option maxHeartbeats 4000000 in
set_option maxRecDepth 100000 in
theorem kAs_markReserved (l : Launch) (D : va_G) (q : Nat → Nat) (cI cJ cZ : ClassId) (hq : c_inj q) (z0 : SC) (a : Int32) (ha : vp_in a 200) : Met l yAs_markReserved wsAs_markReserved { frames := 0, cells := 0, slots := 0, locals := 0 } (va_Pc [.ref (q 6), .int (a)] (c_C D q cI cJ cZ z0)) (cQw none (c_W D q cI cJ cZ (fAs_markReserved z0 a)) (c_qs q)) 0 0 (c_qs q) := by
  refine Met.ofW (cc := ccAs_markReserved) (maxL := 2) (ret := none) (by decide +kernel) rfl ?_
  intro p e s m args below meth c s₁ B hml hv
  obtain ⟨rfl, hP, hK⟩ := hv
  have hx := B.exec
  have hb := B.bytes
  have hr := B.returns
  have hts := atoms_spec (ws := wsAs_markReserved) B.pre
  have hown : s.vm.findClass RAs = some m.cls := findClass_of_methodNamed B.named
  have hlocks := B.notSynchronized
  have w0 := hts (.fieldLink RAs 36 "DrumMachine$Assembler" "reserved" "[Z") (List.mem_cons_of_mem _ wm1_153)
  have i0 : ∀ w ∈ u_ws RAs TAs 11, w ∈ wsAs_markReserved := fun w h => List.mem_cons_of_mem _ (inAAs w h)
  have hS : va_S (c_qs q) s.heap s.heap [] := va_S.rf
  have hl := lv_entry ([.ref (q 6), .int (a)]) (n := 2) (Nat.le_of_ble_eq_true rfl)
  rw [lg_entry_eq]
  generalize (lg_sl ([.ref (q 6), .int (a)]) ++ List.replicate (2 - (lg_sl ([.ref (q 6), .int (a)])).length) Slot.unset).toArray = ls at hl ⊢
  have hl : lv_has ls 2 [(0, .ref (q 6)), (1, .int (a))] := hl
  have hR := fAs_markReserved.eq_1 z0 a
  refine lv_aload_n hx hb dAs_markReserved_0 rfl (lv_at hl 0 rfl) ?_
  refine cg6_reserved hx hb hts i0 hown hK hP w0 dAs_markReserved_1 ?_
  refine lv_iload_n hx hb dAs_markReserved_4 rfl (lv_at hl 1 rfl) ?_
  refine lv_iconst (v := 1) hx hb dAs_markReserved_5 (by decide) ?_
  refine cs_resv true hq hS hx hb hK hP ha dAs_markReserved_6 (fun H locs hP hS => ?_)
  exact W.vret hx hb hr (fun t ht _ => ⟨rfl, by rw [hR, ht]; exact hP, hS.F ht⟩) hS.2.2 dAs_markReserved_7
theorem dAs_placeOf_0 : decode ccAs_placeOf 0 = .ok (.aload_n 0, 1) := by decide +kernel
theorem dAs_placeOf_1 : decode ccAs_placeOf 1 = .ok (.getfield 31, 3) := by decide +kernel
theorem dAs_placeOf_4 : decode ccAs_placeOf 4 = .ok (.iload_n 1, 1) := by decide +kernel
theorem dAs_placeOf_5 : decode ccAs_placeOf 5 = .ok (.iaload, 1) := by decide +kernel
theorem dAs_placeOf_6 : decode ccAs_placeOf 6 = .ok (.ireturn, 1) := by decide +kernel
def fAs_placeOf (z0 : SC) (a : Int32) : Int32 :=
  c_syms z0 a.toNatClampNeg
set_option maxHeartbeats 4000000 in
set_option maxRecDepth 100000 in
theorem kAs_placeOf (l : Launch) (D : va_G) (q : Nat → Nat) (cI cJ cZ : ClassId) (hq : c_inj q) (z0 : SC) (a : Int32) (ha : vp_in a 20) : Met l yAs_placeOf wsAs_placeOf { frames := 0, cells := 0, slots := 0, locals := 0 } (va_Pc [.ref (q 6), .int (a)] (c_C D q cI cJ cZ z0)) (cQr (some (.int (fAs_placeOf z0 a)))) 0 0 (fun _ => False) := by
  refine Met.ofW (cc := ccAs_placeOf) (maxL := 2) (ret := (some .int)) (by decide +kernel) rfl ?_
  intro p e s m args below meth c s₁ B hml hv
  obtain ⟨rfl, hP, hK⟩ := hv
  have hx := B.exec
  have hb := B.bytes
  have hr := B.returns
  have hts := atoms_spec (ws := wsAs_placeOf) B.pre
  have hown : s.vm.findClass RAs = some m.cls := findClass_of_methodNamed B.named
  have hlocks := B.notSynchronized
  have w0 := hts (.fieldLink RAs 31 "DrumMachine$Assembler" "symbolPlaces" "[I") (List.mem_cons_of_mem _ wm1_152)
  have i0 : ∀ w ∈ u_ws RAs TAs 11, w ∈ wsAs_placeOf := fun w h => List.mem_cons_of_mem _ (inAAs w h)
  have hl := lv_entry ([.ref (q 6), .int (a)]) (n := 2) (Nat.le_of_ble_eq_true rfl)
  rw [lg_entry_eq]
  generalize (lg_sl ([.ref (q 6), .int (a)]) ++ List.replicate (2 - (lg_sl ([.ref (q 6), .int (a)])).length) Slot.unset).toArray = ls at hl ⊢
  have hl : lv_has ls 2 [(0, .ref (q 6)), (1, .int (a))] := hl
  have hR := fAs_placeOf.eq_1 z0 a
  refine lv_aload_n hx hb dAs_placeOf_0 rfl (lv_at hl 0 rfl) ?_
  refine cg6_symbolPlaces hx hb hts i0 hown hK hP w0 dAs_placeOf_1 ?_
  refine lv_iload_n hx hb dAs_placeOf_4 rfl (lv_at hl 1 rfl) ?_
  refine cl_syms hx hb hK hP ha dAs_placeOf_5 ?_
  exact W.iret hx hb hr (fun t ht _ => ⟨by rw [hR]; first | done | rfl, ht⟩) (fun _ h => absurd h List.not_mem_nil) dAs_placeOf_6
theorem dAs_firstLocation_0 : decode ccAs_firstLocation 0 = .ok (.aload_n 0, 1) := by decide +kernel
theorem dAs_firstLocation_1 : decode ccAs_firstLocation 1 = .ok (.getfield 22, 3) := by decide +kernel
theorem dAs_firstLocation_4 : decode ccAs_firstLocation 4 = .ok (.iconst 0, 1) := by decide +kernel
theorem dAs_firstLocation_5 : decode ccAs_firstLocation 5 = .ok (.iaload, 1) := by decide +kernel
theorem dAs_firstLocation_6 : decode ccAs_firstLocation 6 = .ok (.ireturn, 1) := by decide +kernel
def fAs_firstLocation (z0 : SC)  : Int32 :=
  c_locs z0 (((0 : Int32)).toNatClampNeg)
set_option maxHeartbeats 4000000 in
set_option maxRecDepth 100000 in
theorem kAs_firstLocation (l : Launch) (D : va_G) (q : Nat → Nat) (cI cJ cZ : ClassId) (hq : c_inj q) (z0 : SC)   : Met l yAs_firstLocation wsAs_firstLocation { frames := 0, cells := 0, slots := 0, locals := 0 } (va_Pc [.ref (q 6)] (c_C D q cI cJ cZ z0)) (cQr (some (.int (fAs_firstLocation z0)))) 0 0 (fun _ => False) := by
  refine Met.ofW (cc := ccAs_firstLocation) (maxL := 1) (ret := (some .int)) (by decide +kernel) rfl ?_
  intro p e s m args below meth c s₁ B hml hv
  obtain ⟨rfl, hP, hK⟩ := hv
  have hx := B.exec
  have hb := B.bytes
  have hr := B.returns
  have hts := atoms_spec (ws := wsAs_firstLocation) B.pre
  have hown : s.vm.findClass RAs = some m.cls := findClass_of_methodNamed B.named
  have hlocks := B.notSynchronized
  have w0 := hts (.fieldLink RAs 22 "DrumMachine$Assembler" "locations" "[I") (List.mem_cons_of_mem _ wm1_149)
  have i0 : ∀ w ∈ u_ws RAs TAs 11, w ∈ wsAs_firstLocation := fun w h => List.mem_cons_of_mem _ (inAAs w h)
  have hl := lv_entry ([.ref (q 6)]) (n := 1) (Nat.le_of_ble_eq_true rfl)
  rw [lg_entry_eq]
  generalize (lg_sl ([.ref (q 6)]) ++ List.replicate (1 - (lg_sl ([.ref (q 6)])).length) Slot.unset).toArray = ls at hl ⊢
  have hl : lv_has ls 1 [(0, .ref (q 6))] := hl
  have hR := fAs_firstLocation.eq_1 z0
  refine lv_aload_n hx hb dAs_firstLocation_0 rfl (lv_at hl 0 rfl) ?_
  refine cg6_locations hx hb hts i0 hown hK hP w0 dAs_firstLocation_1 ?_
  refine lv_iconst (v := 0) hx hb dAs_firstLocation_4 (by decide) ?_
  refine cl_locs hx hb hK hP (vp_in_nI (n := 0) (by decide) (by decide)) dAs_firstLocation_5 ?_
  exact W.iret hx hb hr (fun t ht _ => ⟨by rw [hR]; first | done | rfl, ht⟩) (fun _ h => absurd h List.not_mem_nil) dAs_firstLocation_6
theorem dAs_takeIfAddress_0 : decode ccAs_takeIfAddress 0 = .ok (.iload_n 1, 1) := by decide +kernel
theorem dAs_takeIfAddress_1 : decode ccAs_takeIfAddress 1 = .ok (.invokestatic 49, 3) := by decide +kernel
theorem dAs_takeIfAddress_4 : decode ccAs_takeIfAddress 4 = .ok (.ifCond .eq 10, 3) := by decide +kernel
theorem dAs_takeIfAddress_7 : decode ccAs_takeIfAddress 7 = .ok (.aload_n 0, 1) := by decide +kernel
theorem dAs_takeIfAddress_8 : decode ccAs_takeIfAddress 8 = .ok (.getfield 40, 3) := by decide +kernel
theorem dAs_takeIfAddress_11 : decode ccAs_takeIfAddress 11 = .ok (.iload_n 1, 1) := by decide +kernel
theorem dAs_takeIfAddress_12 : decode ccAs_takeIfAddress 12 = .ok (.iconst 1, 1) := by decide +kernel
theorem dAs_takeIfAddress_13 : decode ccAs_takeIfAddress 13 = .ok (.bastore, 1) := by decide +kernel
theorem dAs_takeIfAddress_14 : decode ccAs_takeIfAddress 14 = .ok (.return_, 1) := by decide +kernel
def fAs_takeIfAddress (z0 : SC) (a : Int32) : SC :=
  (if (fDr_hasAddress a) = true then c_taken_s z0 (updB (c_taken z0) a.toNatClampNeg true) else z0)
set_option maxHeartbeats 4000000 in
set_option maxRecDepth 100000 in
theorem kAs_takeIfAddress (l : Launch) (D : va_G) (q : Nat → Nat) (cI cJ cZ : ClassId) (hq : c_inj q) (z0 : SC) (a : Int32)  : Met l yAs_takeIfAddress wsAs_takeIfAddress { frames := 1, cells := 0, slots := 0, locals := 20 } (va_Pc [.ref (q 6), .int (a)] (c_C D q cI cJ cZ z0)) (cQw none (c_W D q cI cJ cZ (fAs_takeIfAddress z0 a)) (c_qs q)) 0 0 (c_qs q) := by
  refine Met.ofW (cc := ccAs_takeIfAddress) (maxL := 2) (ret := none) (by decide +kernel) rfl ?_
  intro p e s m args below meth c s₁ B hml hv
  obtain ⟨rfl, hP, hK⟩ := hv
  have hx := B.exec
  have hb := B.bytes
  have hr := B.returns
  have hts := atoms_spec (ws := wsAs_takeIfAddress) B.pre
  have hown : s.vm.findClass RAs = some m.cls := findClass_of_methodNamed B.named
  have hlocks := B.notSynchronized
  have w0 := hts (.fieldLink RAs 40 "DrumMachine$Assembler" "taken" "[Z") (List.mem_cons_of_mem _ wm1_154)
  have i0 : ∀ w ∈ u_ws RAs TAs 11, w ∈ wsAs_takeIfAddress := fun w h => List.mem_cons_of_mem _ (inAAs w h)
  have hS : va_S (c_qs q) s.heap s.heap [] := va_S.rf
  have hl := lv_entry ([.ref (q 6), .int (a)]) (n := 2) (Nat.le_of_ble_eq_true rfl)
  rw [lg_entry_eq]
  generalize (lg_sl ([.ref (q 6), .int (a)]) ++ List.replicate (2 - (lg_sl ([.ref (q 6), .int (a)])).length) Slot.unset).toArray = ls at hl ⊢
  have hl : lv_has ls 2 [(0, .ref (q 6)), (1, .int (a))] := hl
  have hR := fAs_takeIfAddress.eq_1 z0 a
  refine lv_iload_n hx hb dAs_takeIfAddress_0 rfl (lv_at hl 1 rfl) ?_
  refine cl_rd (W.runS (As := [.int (a)]) (rest := []) ⟨hx, hb, hml, hown, hts⟩ (kDr_hasAddress l a) (va_cwS 1 hts (gS wm2_190 wm2_9 wm1_2 wm2_10) rfl rfl rfl (by decide +kernel) ⟨Nat.le_of_ble_eq_true rfl, Nat.le_of_ble_eq_true rfl⟩) (preT) rfl rfl hl.1 rfl (lv_room (Nat.le_of_ble_eq_true rfl)) dAs_takeIfAddress_1 ⟨Nat.le_refl _, Nat.le_refl _⟩) ?_
  refine wz_ifeq hx hb dAs_takeIfAddress_4 rfl (fun h4 => ?_) (fun h4 => ?_)
  · have hR := hR.trans (if_neg h4)
    exact W.vret hx hb hr (fun t ht _ => ⟨rfl, by rw [hR, ht]; exact hP, hS.F ht⟩) hS.2.2 dAs_takeIfAddress_14
  · have hR := hR.trans (if_pos h4)
    refine lv_aload_n hx hb dAs_takeIfAddress_7 rfl (lv_at hl 0 rfl) ?_
    refine cg6_taken hx hb hts i0 hown hK hP w0 dAs_takeIfAddress_8 ?_
    refine lv_iload_n hx hb dAs_takeIfAddress_11 rfl (lv_at hl 1 rfl) ?_
    refine lv_iconst (v := 1) hx hb dAs_takeIfAddress_12 (by decide) ?_
    refine cs_taken true hq hS hx hb hK hP (has_in h4) dAs_takeIfAddress_13 (fun H locs hP hS => ?_)
    exact W.vret hx hb hr (fun t ht _ => ⟨rfl, by rw [hR, ht]; exact hP, hS.F ht⟩) hS.2.2 dAs_takeIfAddress_14
def pl (x : Int32) : Prop := -1 ≤ x.toInt ∧ x.toInt < 200
def pp (x : Int32) : Prop := pl x ∨ (1000 ≤ x.toInt ∧ x.toInt < 1020)
theorem ff_in {x : Int32} (h4 : 0 ≤ x.toInt ∧ x.toInt ≤ 249) (h : ¬ (200 : Int32) ≤ x) : vp_in x 200 := by
  have h1 := lk_lt h
  have e : (200 : Int32).toInt = 200 := by decide
  exact vp_in_iff.mpr ⟨h4.1, by omega⟩
theorem ff_v {a : Int32} {k : Nat} (ha : 0 ≤ a.toInt ∧ a.toInt ≤ 10000) (hk : k ≤ 50) : ((a + nI k) % 50).toInt = (a.toInt + k) % 50 := by
  have e : (50 : Int32).toInt = 50 := by decide
  have ek := nI_toInt (n := k) (by omega)
  have e1 : (a + nI k).toInt = a.toInt + k := by rw [Kit.i32_add (by omega) (by omega), ek]
  rw [Kit.i32_rem_nonneg (by omega), e1, e]
theorem ff_b {a : Int32} {k : Nat} (ha : 0 ≤ a.toInt ∧ a.toInt ≤ 10000) (hk : k ≤ 50) : 0 ≤ ((a + nI k) % 50).toInt ∧ ((a + nI k) % 50).toInt ≤ 249 := by
  have := ff_v ha hk
  omega
theorem ff_m {a : Int32} {k : Nat} (ha : 0 ≤ a.toInt ∧ a.toInt ≤ 10000) (hk : k ≤ 50) : (249 - ((a + nI k) % 50).toInt).toNat / 50 < 5 := by
  have := ff_v ha hk
  omega
theorem ff_p {x : Int32} (h4 : 0 ≤ x.toInt ∧ x.toInt ≤ 249) (h : ¬ (200 : Int32) ≤ x) : (x + 50).toInt = x.toInt + 50 := by
  have e : (50 : Int32).toInt = 50 := by decide
  rw [Kit.i32_add (by omega) (by omega), e]
theorem ff_s {x : Int32} (h4 : 0 ≤ x.toInt ∧ x.toInt ≤ 249) (h : ¬ (200 : Int32) ≤ x) : 0 ≤ (x + 50).toInt ∧ (x + 50).toInt ≤ 249 := by
  have h1 := lk_lt h
  have e : (200 : Int32).toInt = 200 := by decide
  rw [ff_p h4 h]
  omega
theorem ff_n {x : Int32} {n : Nat} (h4 : 0 ≤ x.toInt ∧ x.toInt ≤ 249) (h : ¬ (200 : Int32) ≤ x) (hn : (249 - x.toInt).toNat / 50 < n + 1) : (249 - (x + 50).toInt).toNat / 50 < n := by
  have h1 := lk_lt h
  have e : (200 : Int32).toInt = 200 := by decide
  rw [ff_p h4 h]
  omega
theorem pl_in {x : Int32} (hp : pl x) (h : ¬ x = -1) : vp_in x 200 := by
  have e : (-1 : Int32).toInt = -1 := by decide
  have h1 : ¬ x.toInt = -1 := fun q => h (Int32.toInt_inj.mp (by rw [q, e]))
  exact vp_in_iff.mpr ⟨by have := hp.1; omega, hp.2⟩
theorem pl_nn {x : Int32} (hp : pl x) (h : ¬ x = -1) : 0 ≤ x.toInt := (vp_in_iff.mp (pl_in hp h)).1
theorem pl_m1 : pl (-1) := by
  have e : (-1 : Int32).toInt = -1 := by decide
  unfold pl
  omega
theorem pl_of {x : Int32} (h : vp_in x 200) : pl x := by
  obtain ⟨h1, h2⟩ := vp_in_iff.mp h
  exact ⟨by omega, h2⟩
theorem sy_in {a : Int32} (h : fAs_isSymbol a = true) : vp_in (a - 1000) 20 := by
  rw [fAs_isSymbol.eq_1] at h
  have e : (1000 : Int32).toInt = 1000 := by decide
  have e2 : (1020 : Int32).toInt = 1020 := by decide
  by_cases h1 : a < (1000 : Int32)
  · rw [if_pos h1] at h; cases h
  · rw [if_neg h1] at h
    by_cases h2 : (1020 : Int32) ≤ a
    · rw [if_pos h2] at h; cases h
    · rw [Int32.lt_iff_toInt_lt] at h1
      have h3 := lk_lt h2
      rw [vp_in_iff, Kit.i32_sub (by omega) (by omega), e]
      omega
theorem pr_in {a : Int32} (ha : vp_in a 40) (h : ¬ a ≤ 0) : vp_in (a - 1) 40 := by
  obtain ⟨a1, a2⟩ := vp_in_iff.mp ha
  have e : (0 : Int32).toInt = 0 := by decide
  have e1 : (1 : Int32).toInt = 1 := by decide
  rw [Int32.le_iff_toInt_le] at h
  rw [vp_in_iff, Kit.i32_sub (by omega) (by omega), e1]
  omega
theorem mt_in {x : Int32} {k : Nat} (hn : 0 ≤ x.toInt ∧ x.toInt ≤ 40) (h : ¬ x ≤ nI k) (hk : k ≤ 40) : vp_in (nI k) 40 := by
  have h1 := lk_lt h
  rw [nI_toInt (by omega)] at h1
  exact vp_in_nI (by omega) (by decide)
theorem mt_b {x : Int32} {k : Nat} (hn : 0 ≤ x.toInt ∧ x.toInt ≤ 40) (h : ¬ x ≤ nI k) (hk : k ≤ 40) : k + 1 ≤ 40 := by
  have h1 := lk_lt h
  rw [nI_toInt (by omega)] at h1
  omega
theorem mt_m {x : Int32} {k n : Nat} (hn : 0 ≤ x.toInt ∧ x.toInt ≤ 40) (h : ¬ x ≤ nI k) (hk : k ≤ 40) (hm : 40 - k < n + 1) : 40 - (k + 1) < n := by
  have h1 := lk_lt h
  rw [nI_toInt (by omega)] at h1
  omega
theorem el_in {a : Int32} {k : Nat} (ha : vp_in a 40) (h : ¬ a ≤ nI k) (hk : k ≤ 40) : vp_in (nI k) 40 := by
  obtain ⟨a1, a2⟩ := vp_in_iff.mp ha
  exact mt_in (x := a) ⟨a1, by omega⟩ h hk
theorem el_b {a : Int32} {k : Nat} (ha : vp_in a 40) (h : ¬ a ≤ nI k) (hk : k ≤ 40) : k + 1 ≤ 40 := by
  obtain ⟨a1, a2⟩ := vp_in_iff.mp ha
  exact mt_b (x := a) ⟨a1, by omega⟩ h hk
theorem el_m {a : Int32} {k n : Nat} (ha : vp_in a 40) (h : ¬ a ≤ nI k) (hk : k ≤ 40) (hm : 40 - k < n + 1) : 40 - (k + 1) < n := by
  obtain ⟨a1, a2⟩ := vp_in_iff.mp ha
  exact mt_m (x := a) ⟨a1, by omega⟩ h hk hm
theorem ta_n (z : SC) (a : Int32) : c_acount (fAs_takeIfAddress z a) = c_acount z := by
  unfold fAs_takeIfAddress
  split <;> rfl
theorem dAs_leastFree_0 : decode ccAs_leastFree 0 = .ok (.iconst 0, 1) := by decide +kernel
theorem dAs_leastFree_1 : decode ccAs_leastFree 1 = .ok (.istore_n 1, 1) := by decide +kernel
theorem dAs_leastFree_2 : decode ccAs_leastFree 2 = .ok (.iload_n 1, 1) := by decide +kernel
theorem dAs_leastFree_3 : decode ccAs_leastFree 3 = .ok (.sipush 200, 3) := by decide +kernel
theorem dAs_leastFree_6 : decode ccAs_leastFree 6 = .ok (.if_icmp .ge 20, 3) := by decide +kernel
theorem dAs_leastFree_9 : decode ccAs_leastFree 9 = .ok (.aload_n 0, 1) := by decide +kernel
theorem dAs_leastFree_10 : decode ccAs_leastFree 10 = .ok (.getfield 40, 3) := by decide +kernel
theorem dAs_leastFree_13 : decode ccAs_leastFree 13 = .ok (.iload_n 1, 1) := by decide +kernel
theorem dAs_leastFree_14 : decode ccAs_leastFree 14 = .ok (.baload, 1) := by decide +kernel
theorem dAs_leastFree_15 : decode ccAs_leastFree 15 = .ok (.ifCond .ne 5, 3) := by decide +kernel
theorem dAs_leastFree_18 : decode ccAs_leastFree 18 = .ok (.iload_n 1, 1) := by decide +kernel
theorem dAs_leastFree_19 : decode ccAs_leastFree 19 = .ok (.ireturn, 1) := by decide +kernel
theorem dAs_leastFree_20 : decode ccAs_leastFree 20 = .ok (.iinc 1 1, 3) := by decide +kernel
theorem dAs_leastFree_23 : decode ccAs_leastFree 23 = .ok (.goto (-21), 3) := by decide +kernel
theorem dAs_leastFree_26 : decode ccAs_leastFree 26 = .ok (.iconst (-1), 1) := by decide +kernel
theorem dAs_leastFree_27 : decode ccAs_leastFree 27 = .ok (.ireturn, 1) := by decide +kernel
def fAs_leastFree_2  : Nat → SC → Nat → Int32
  | 0, z0, v1 => 0
  | fu + 1, z0, v1 => (if 200 ≤ v1 then (-1) else (if (c_taken z0 ((nI (v1)).toNatClampNeg)) = true then fAs_leastFree_2 fu z0 (v1 + 1) else nI (v1)))
def fAs_leastFree (z0 : SC)  : Int32 :=
  fAs_leastFree_2 201 z0 0
set_option maxHeartbeats 4000000 in
set_option maxRecDepth 100000 in
theorem kAs_leastFree (l : Launch) (D : va_G) (q : Nat → Nat) (cI cJ cZ : ClassId) (hq : c_inj q) (z0 : SC)   : Met l yAs_leastFree wsAs_leastFree { frames := 0, cells := 0, slots := 0, locals := 0 } (va_Pc [.ref (q 6)] (c_C D q cI cJ cZ z0)) (cQr (some (.int (fAs_leastFree z0)))) 0 0 (fun _ => False) := by
  refine Met.ofW (cc := ccAs_leastFree) (maxL := 2) (ret := (some .int)) (by decide +kernel) rfl ?_
  intro p e s m args below meth c s₁ B hml hv
  obtain ⟨rfl, hP, hK⟩ := hv
  have hx := B.exec
  have hb := B.bytes
  have hr := B.returns
  have hts := atoms_spec (ws := wsAs_leastFree) B.pre
  have hown : s.vm.findClass RAs = some m.cls := findClass_of_methodNamed B.named
  have hlocks := B.notSynchronized
  have w0 := hts (.fieldLink RAs 40 "DrumMachine$Assembler" "taken" "[Z") (List.mem_cons_of_mem _ wm1_154)
  have i0 : ∀ w ∈ u_ws RAs TAs 11, w ∈ wsAs_leastFree := fun w h => List.mem_cons_of_mem _ (inAAs w h)
  have hl := lv_entry ([.ref (q 6)]) (n := 2) (Nat.le_of_ble_eq_true rfl)
  rw [lg_entry_eq]
  generalize (lg_sl ([.ref (q 6)]) ++ List.replicate (2 - (lg_sl ([.ref (q 6)])).length) Slot.unset).toArray = ls at hl ⊢
  have hl : lv_has ls 2 [(0, .ref (q 6))] := hl
  have hB2 : ∀ (n2 : Nat) (ls : Array Slot) (v1 : Nat), 200 - v1 < n2 → fAs_leastFree z0 = fAs_leastFree_2 n2 z0 v1 → (v1 ≤ 200) → lv_has ls 2 [(0, .ref (q 6)), (1, .int (nI (v1)))] → W p l e (headSpec wsAs_leastFree { frames := 0, cells := 0, slots := 0, locals := 0 }).room s m ([.ref (q 6)] : List Value).toArray below meth c s.heap [] 0 0 (MQ below (cQr (some (.int (fAs_leastFree z0)))) ([.ref (q 6)] : List Value).toArray s 0 0 (fun _ => False)) (F0 m 2 ls []) := by
    intro n2
    induction n2 with
    | zero => intro ls v1 hn2; exact absurd hn2 (Nat.not_lt_zero _)
    | succ n2 ih2 =>
      intro ls v1 hn2 hR h1 hl
      rw [fAs_leastFree_2.eq_2] at hR
      refine lv_iload_n hx hb dAs_leastFree_2 rfl (lv_at hl 1 rfl) ?_
      refine lv_sipush (v := 200) hx hb dAs_leastFree_3 (by decide) ?_
      refine wn_ge (x := v1) (y := 200) hx hb (by omega) (by omega) dAs_leastFree_6 rfl (fun h6 => ?_) (fun h6 => ?_)
      · have hR := hR.trans (if_pos h6)
        refine lv_iconst (v := (-1)) hx hb dAs_leastFree_26 (by decide) ?_
        exact W.iret hx hb hr (fun t ht _ => ⟨by rw [hR]; first | done | rfl, ht⟩) (fun _ h => absurd h List.not_mem_nil) dAs_leastFree_27
      · have hR := hR.trans (if_neg h6)
        refine lv_aload_n hx hb dAs_leastFree_9 rfl (lv_at hl 0 rfl) ?_
        refine cg6_taken hx hb hts i0 hown hK hP w0 dAs_leastFree_10 ?_
        refine lv_iload_n hx hb dAs_leastFree_13 rfl (lv_at hl 1 rfl) ?_
        refine cl_taken hx hb hK hP (vp_in_nI (by omega) (by decide)) dAs_leastFree_14 ?_
        refine wz_ifne hx hb dAs_leastFree_15 rfl (fun h15 => ?_) (fun h15 => ?_)
        · have hR := hR.trans (if_pos h15)
          refine lv_iinc (k := 1) (lv' := [(1, .int (nI (v1 + 1))), (0, .ref (q 6))]) hx hb dAs_leastFree_20 hl rfl (nI_1 _) (by decide) rfl (fun ls hl => ?_)
          refine lv_goto hx hb dAs_leastFree_23 rfl ?_
          exact ih2 ls (v1 + 1) (by omega) hR (by first | assumption | omega) (lv_sub hl [1, 0] rfl)
        · have hR := hR.trans (if_neg h15)
          refine lv_iload_n hx hb dAs_leastFree_18 rfl (lv_at hl 1 rfl) ?_
          exact W.iret hx hb hr (fun t ht _ => ⟨by rw [hR]; first | done | rfl, ht⟩) (fun _ h => absurd h List.not_mem_nil) dAs_leastFree_19
  have hR := fAs_leastFree.eq_1 z0
  refine lv_iconst (v := 0) hx hb dAs_leastFree_0 (by decide) ?_
  refine lv_istore_n (lv' := [(1, .int (nI (0))), (0, .ref (q 6))]) hx hb dAs_leastFree_1 rfl hl (by decide) rfl (fun ls hl => ?_)
  exact hB2 201 ls 0 (by omega) hR (by first | assumption | omega) (lv_sub hl [1, 0] rfl)
theorem dAs_firstFreeFromAngle_0 : decode ccAs_firstFreeFromAngle 0 = .ok (.iconst 0, 1) := by decide +kernel
theorem dAs_firstFreeFromAngle_1 : decode ccAs_firstFreeFromAngle 1 = .ok (.istore_n 2, 1) := by decide +kernel
theorem dAs_firstFreeFromAngle_2 : decode ccAs_firstFreeFromAngle 2 = .ok (.iload_n 2, 1) := by decide +kernel
theorem dAs_firstFreeFromAngle_3 : decode ccAs_firstFreeFromAngle 3 = .ok (.bipush 50, 2) := by decide +kernel
theorem dAs_firstFreeFromAngle_5 : decode ccAs_firstFreeFromAngle 5 = .ok (.if_icmp .ge 46, 3) := by decide +kernel
theorem dAs_firstFreeFromAngle_8 : decode ccAs_firstFreeFromAngle 8 = .ok (.iload_n 1, 1) := by decide +kernel
theorem dAs_firstFreeFromAngle_9 : decode ccAs_firstFreeFromAngle 9 = .ok (.iload_n 2, 1) := by decide +kernel
theorem dAs_firstFreeFromAngle_10 : decode ccAs_firstFreeFromAngle 10 = .ok (.iadd, 1) := by decide +kernel
theorem dAs_firstFreeFromAngle_11 : decode ccAs_firstFreeFromAngle 11 = .ok (.bipush 50, 2) := by decide +kernel
theorem dAs_firstFreeFromAngle_13 : decode ccAs_firstFreeFromAngle 13 = .ok (.irem, 1) := by decide +kernel
theorem dAs_firstFreeFromAngle_14 : decode ccAs_firstFreeFromAngle 14 = .ok (.istore_n 3, 1) := by decide +kernel
theorem dAs_firstFreeFromAngle_15 : decode ccAs_firstFreeFromAngle 15 = .ok (.iload_n 3, 1) := by decide +kernel
theorem dAs_firstFreeFromAngle_16 : decode ccAs_firstFreeFromAngle 16 = .ok (.istore 4, 2) := by decide +kernel
theorem dAs_firstFreeFromAngle_18 : decode ccAs_firstFreeFromAngle 18 = .ok (.iload 4, 2) := by decide +kernel
theorem dAs_firstFreeFromAngle_20 : decode ccAs_firstFreeFromAngle 20 = .ok (.sipush 200, 3) := by decide +kernel
theorem dAs_firstFreeFromAngle_23 : decode ccAs_firstFreeFromAngle 23 = .ok (.if_icmp .ge 22, 3) := by decide +kernel
theorem dAs_firstFreeFromAngle_26 : decode ccAs_firstFreeFromAngle 26 = .ok (.aload_n 0, 1) := by decide +kernel
theorem dAs_firstFreeFromAngle_27 : decode ccAs_firstFreeFromAngle 27 = .ok (.getfield 40, 3) := by decide +kernel
theorem dAs_firstFreeFromAngle_30 : decode ccAs_firstFreeFromAngle 30 = .ok (.iload 4, 2) := by decide +kernel
theorem dAs_firstFreeFromAngle_32 : decode ccAs_firstFreeFromAngle 32 = .ok (.baload, 1) := by decide +kernel
theorem dAs_firstFreeFromAngle_33 : decode ccAs_firstFreeFromAngle 33 = .ok (.ifCond .ne 6, 3) := by decide +kernel
theorem dAs_firstFreeFromAngle_36 : decode ccAs_firstFreeFromAngle 36 = .ok (.iload 4, 2) := by decide +kernel
theorem dAs_firstFreeFromAngle_38 : decode ccAs_firstFreeFromAngle 38 = .ok (.ireturn, 1) := by decide +kernel
theorem dAs_firstFreeFromAngle_39 : decode ccAs_firstFreeFromAngle 39 = .ok (.iinc 4 50, 3) := by decide +kernel
theorem dAs_firstFreeFromAngle_42 : decode ccAs_firstFreeFromAngle 42 = .ok (.goto (-24), 3) := by decide +kernel
theorem dAs_firstFreeFromAngle_45 : decode ccAs_firstFreeFromAngle 45 = .ok (.iinc 2 1, 3) := by decide +kernel
theorem dAs_firstFreeFromAngle_48 : decode ccAs_firstFreeFromAngle 48 = .ok (.goto (-46), 3) := by decide +kernel
theorem dAs_firstFreeFromAngle_51 : decode ccAs_firstFreeFromAngle 51 = .ok (.iconst (-1), 1) := by decide +kernel
theorem dAs_firstFreeFromAngle_52 : decode ccAs_firstFreeFromAngle 52 = .ok (.ireturn, 1) := by decide +kernel
def fAs_firstFreeFromAngle_18 (k2 : SC → Int32 → Nat → (Int32)) : Nat → SC → Int32 → Nat → Int32 → Int32
  | 0, z0, a, v2, v4 => 0
  | fu + 1, z0, a, v2, v4 => (if (200 : Int32) ≤ v4 then k2 z0 a (v2 + 1) else (if (c_taken z0 v4.toNatClampNeg) = true then fAs_firstFreeFromAngle_18 k2 fu z0 a v2 (v4 + 50) else v4))
def fAs_firstFreeFromAngle_2  : Nat → SC → Int32 → Nat → Int32
  | 0, z0, a, v2 => 0
  | fu + 1, z0, a, v2 => (if 50 ≤ v2 then (-1) else fAs_firstFreeFromAngle_18 (fAs_firstFreeFromAngle_2 fu) 5 z0 a v2 ((a + (nI (v2))) % 50))
def fAs_firstFreeFromAngle (z0 : SC) (a : Int32) : Int32 :=
  fAs_firstFreeFromAngle_2 51 z0 a 0
set_option maxHeartbeats 4000000 in
set_option maxRecDepth 100000 in
theorem kAs_firstFreeFromAngle (l : Launch) (D : va_G) (q : Nat → Nat) (cI cJ cZ : ClassId) (hq : c_inj q) (z0 : SC) (a : Int32) (ha : 0 ≤ a.toInt ∧ a.toInt ≤ 10000) : Met l yAs_firstFreeFromAngle wsAs_firstFreeFromAngle { frames := 0, cells := 0, slots := 0, locals := 0 } (va_Pc [.ref (q 6), .int (a)] (c_C D q cI cJ cZ z0)) (cQr (some (.int (fAs_firstFreeFromAngle z0 a)))) 0 0 (fun _ => False) := by
  refine Met.ofW (cc := ccAs_firstFreeFromAngle) (maxL := 5) (ret := (some .int)) (by decide +kernel) rfl ?_
  intro p e s m args below meth c s₁ B hml hv
  obtain ⟨rfl, hP, hK⟩ := hv
  have hx := B.exec
  have hb := B.bytes
  have hr := B.returns
  have hts := atoms_spec (ws := wsAs_firstFreeFromAngle) B.pre
  have hown : s.vm.findClass RAs = some m.cls := findClass_of_methodNamed B.named
  have hlocks := B.notSynchronized
  have w0 := hts (.fieldLink RAs 40 "DrumMachine$Assembler" "taken" "[Z") (List.mem_cons_of_mem _ wm1_154)
  have i0 : ∀ w ∈ u_ws RAs TAs 11, w ∈ wsAs_firstFreeFromAngle := fun w h => List.mem_cons_of_mem _ (inAAs w h)
  have hl := lv_entry ([.ref (q 6), .int (a)]) (n := 5) (Nat.le_of_ble_eq_true rfl)
  rw [lg_entry_eq]
  generalize (lg_sl ([.ref (q 6), .int (a)]) ++ List.replicate (5 - (lg_sl ([.ref (q 6), .int (a)])).length) Slot.unset).toArray = ls at hl ⊢
  have hl : lv_has ls 5 [(0, .ref (q 6)), (1, .int (a))] := hl
  have hB2 : ∀ (n2 : Nat) (ls : Array Slot) (v2 : Nat), 50 - v2 < n2 → fAs_firstFreeFromAngle z0 a = fAs_firstFreeFromAngle_2 n2 z0 a v2 → (v2 ≤ 50) → lv_has ls 5 [(0, .ref (q 6)), (1, .int (a)), (2, .int (nI (v2)))] → W p l e (headSpec wsAs_firstFreeFromAngle { frames := 0, cells := 0, slots := 0, locals := 0 }).room s m ([.ref (q 6), .int (a)] : List Value).toArray below meth c s.heap [] 0 0 (MQ below (cQr (some (.int (fAs_firstFreeFromAngle z0 a)))) ([.ref (q 6), .int (a)] : List Value).toArray s 0 0 (fun _ => False)) (F0 m 2 ls []) := by
    intro n2
    induction n2 with
    | zero => intro ls v2 hn2; exact absurd hn2 (Nat.not_lt_zero _)
    | succ n2 ih2 =>
      intro ls v2 hn2 hR h2 hl
      rw [fAs_firstFreeFromAngle_2.eq_2] at hR
      have hB18 : ∀ (n18 : Nat) (ls : Array Slot) (v2 : Nat) (v4 : Int32), (249 - v4.toInt).toNat / 50 < n18 → fAs_firstFreeFromAngle z0 a = fAs_firstFreeFromAngle_18 (fAs_firstFreeFromAngle_2 n2) n18 z0 a v2 v4 → (0 ≤ v4.toInt ∧ v4.toInt ≤ 249) → (v2 < 50) → (50 - v2 < n2 + 1) → lv_has ls 5 [(0, .ref (q 6)), (1, .int (a)), (2, .int (nI (v2))), (4, .int (v4))] → W p l e (headSpec wsAs_firstFreeFromAngle { frames := 0, cells := 0, slots := 0, locals := 0 }).room s m ([.ref (q 6), .int (a)] : List Value).toArray below meth c s.heap [] 0 0 (MQ below (cQr (some (.int (fAs_firstFreeFromAngle z0 a)))) ([.ref (q 6), .int (a)] : List Value).toArray s 0 0 (fun _ => False)) (F0 m 18 ls []) := by
        intro n18
        induction n18 with
        | zero => intro ls v2 v4 hn18; exact absurd hn18 (Nat.not_lt_zero _)
        | succ n18 ih18 =>
          intro ls v2 v4 hn18 hR h4 h2 hm hl
          rw [fAs_firstFreeFromAngle_18.eq_2] at hR
          refine lv_iload hx hb dAs_firstFreeFromAngle_18 (lv_at hl 3 rfl) ?_
          refine lv_sipush (v := 200) hx hb dAs_firstFreeFromAngle_20 (by decide) ?_
          refine lv_icmp_ge hx hb dAs_firstFreeFromAngle_23 rfl (fun h23 => ?_) (fun h23 => ?_)
          · have hR := hR.trans (if_pos h23)
            refine lv_iinc (k := 2) (lv' := [(2, .int (nI (v2 + 1))), (0, .ref (q 6)), (1, .int (a)), (4, .int (v4))]) hx hb dAs_firstFreeFromAngle_45 hl rfl (nI_1 _) (by decide) rfl (fun ls hl => ?_)
            refine lv_goto hx hb dAs_firstFreeFromAngle_48 rfl ?_
            exact ih2 ls (v2 + 1) (by omega) hR (by first | assumption | omega) (lv_sub hl [1, 2, 0] rfl)
          · have hR := hR.trans (if_neg h23)
            refine lv_aload_n hx hb dAs_firstFreeFromAngle_26 rfl (lv_at hl 0 rfl) ?_
            refine cg6_taken hx hb hts i0 hown hK hP w0 dAs_firstFreeFromAngle_27 ?_
            refine lv_iload hx hb dAs_firstFreeFromAngle_30 (lv_at hl 3 rfl) ?_
            refine cl_taken hx hb hK hP (ff_in h4 h23) dAs_firstFreeFromAngle_32 ?_
            refine wz_ifne hx hb dAs_firstFreeFromAngle_33 rfl (fun h33 => ?_) (fun h33 => ?_)
            · have hR := hR.trans (if_pos h33)
              refine lv_iinc (k := 3) (lv' := [(4, .int (v4 + 50)), (0, .ref (q 6)), (1, .int (a)), (2, .int (nI (v2)))]) hx hb dAs_firstFreeFromAngle_39 hl rfl rfl (by decide) rfl (fun ls hl => ?_)
              refine lv_goto hx hb dAs_firstFreeFromAngle_42 rfl ?_
              exact ih18 ls v2 (v4 + 50) (ff_n h4 h23 hn18) hR (ff_s h4 h23) (by first | assumption | omega) (by first | assumption | omega) (lv_sub hl [1, 2, 3, 0] rfl)
            · have hR := hR.trans (if_neg h33)
              refine lv_iload hx hb dAs_firstFreeFromAngle_36 (lv_at hl 3 rfl) ?_
              exact W.iret hx hb hr (fun t ht _ => ⟨by rw [hR]; first | done | rfl, ht⟩) (fun _ h => absurd h List.not_mem_nil) dAs_firstFreeFromAngle_38
      refine lv_iload_n hx hb dAs_firstFreeFromAngle_2 rfl (lv_at hl 2 rfl) ?_
      refine lv_bipush (v := 50) hx hb dAs_firstFreeFromAngle_3 (by decide) ?_
      refine wn_ge (x := v2) (y := 50) hx hb (by omega) (by omega) dAs_firstFreeFromAngle_5 rfl (fun h5 => ?_) (fun h5 => ?_)
      · have hR := hR.trans (if_pos h5)
        refine lv_iconst (v := (-1)) hx hb dAs_firstFreeFromAngle_51 (by decide) ?_
        exact W.iret hx hb hr (fun t ht _ => ⟨by rw [hR]; first | done | rfl, ht⟩) (fun _ h => absurd h List.not_mem_nil) dAs_firstFreeFromAngle_52
      · have hR := hR.trans (if_neg h5)
        refine lv_iload_n hx hb dAs_firstFreeFromAngle_8 rfl (lv_at hl 1 rfl) ?_
        refine lv_iload_n hx hb dAs_firstFreeFromAngle_9 rfl (lv_at hl 2 rfl) ?_
        refine lv_iadd hx hb dAs_firstFreeFromAngle_10 ?_
        refine lv_bipush (v := 50) hx hb dAs_firstFreeFromAngle_11 (by decide) ?_
        refine lm_irem hx hb dAs_firstFreeFromAngle_13 (by decide) ?_
        refine lv_istore_n (lv' := [(3, .int ((a + (nI (v2))) % 50)), (0, .ref (q 6)), (1, .int (a)), (2, .int (nI (v2)))]) hx hb dAs_firstFreeFromAngle_14 rfl hl (by decide) rfl (fun ls hl => ?_)
        refine lv_iload_n hx hb dAs_firstFreeFromAngle_15 rfl (lv_at hl 0 rfl) ?_
        refine lv_istore (lv' := [(4, .int ((a + (nI (v2))) % 50)), (3, .int ((a + (nI (v2))) % 50)), (0, .ref (q 6)), (1, .int (a)), (2, .int (nI (v2)))]) hx hb dAs_firstFreeFromAngle_16 hl (by decide) rfl (fun ls hl => ?_)
        exact hB18 5 ls v2 ((a + (nI (v2))) % 50) (ff_m ha h2) hR (ff_b ha h2) (by first | assumption | omega) (by first | assumption | omega) (lv_sub hl [2, 3, 4, 0] rfl)
  have hR := fAs_firstFreeFromAngle.eq_1 z0 a
  refine lv_iconst (v := 0) hx hb dAs_firstFreeFromAngle_0 (by decide) ?_
  refine lv_istore_n (lv' := [(2, .int (nI (0))), (0, .ref (q 6)), (1, .int (a))]) hx hb dAs_firstFreeFromAngle_1 rfl hl (by decide) rfl (fun ls hl => ?_)
  exact hB2 51 ls 0 (by omega) hR (by first | assumption | omega) (lv_sub hl [1, 2, 0] rfl)
