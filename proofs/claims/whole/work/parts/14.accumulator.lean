theorem dAc_upperDigits_0 : decode ccAc_upperDigits 0 = .ok (.aload_n 0, 1) := by decide +kernel
theorem dAc_upperDigits_1 : decode ccAc_upperDigits 1 = .ok (.getfield 7, 3) := by decide +kernel
theorem dAc_upperDigits_4 : decode ccAc_upperDigits 4 = .ok (.lreturn, 1) := by decide +kernel
def fAc_upperDigits (z0 : SC)  : Int64 :=
  c_upper z0
set_option maxHeartbeats 4000000 in
set_option maxRecDepth 100000 in
theorem kAc_upperDigits (l : Launch) (D : va_G) (q : Nat → Nat) (cI cJ cZ : ClassId) (hq : c_inj q) (z0 : SC)   : Met l yAc_upperDigits wsAc_upperDigits { frames := 0, cells := 0, slots := 0, locals := 0 } (va_Pc [.ref (q 5)] (c_C D q cI cJ cZ z0)) (cQr (some (.long (fAc_upperDigits z0)))) 0 0 (fun _ => False) := by
  refine Met.ofW (cc := ccAc_upperDigits) (maxL := 1) (ret := (some .long)) (by decide +kernel) rfl ?_
  intro p e s m args below meth c s₁ B hml hv
  obtain ⟨rfl, hP, hK⟩ := hv
  have hx := B.exec
  have hb := B.bytes
  have hr := B.returns
  have hts := atoms_spec (ws := wsAc_upperDigits) B.pre
  have hown : s.vm.findClass RAc = some m.cls := findClass_of_methodNamed B.named
  have hlocks := B.notSynchronized
  have w0 := hts (.fieldLink RAc 7 "DrumMachine$Accumulator" "upper" "J") (List.mem_cons_of_mem _ wm1_97)
  have i0 : ∀ w ∈ u_ws RAc TAc 4, w ∈ wsAc_upperDigits := fun w h => List.mem_cons_of_mem _ (inAAc w h)
  have hl := lv_entry ([.ref (q 5)]) (n := 1) (Nat.le_of_ble_eq_true rfl)
  rw [lg_entry_eq]
  generalize (lg_sl ([.ref (q 5)]) ++ List.replicate (1 - (lg_sl ([.ref (q 5)])).length) Slot.unset).toArray = ls at hl ⊢
  have hl : lv_has ls 1 [(0, .ref (q 5))] := hl
  have hR := fAc_upperDigits.eq_1 z0
  refine lv_aload_n hx hb dAc_upperDigits_0 rfl (lv_at hl 0 rfl) ?_
  refine cg5_upper hx hb hts i0 hown hK hP w0 dAc_upperDigits_1 ?_
  exact W.lret hx hb hr (fun t ht _ => ⟨by rw [hR]; first | done | rfl, ht⟩) (fun _ h => absurd h List.not_mem_nil) dAc_upperDigits_4
theorem dAc_lowerDigits_0 : decode ccAc_lowerDigits 0 = .ok (.aload_n 0, 1) := by decide +kernel
theorem dAc_lowerDigits_1 : decode ccAc_lowerDigits 1 = .ok (.getfield 13, 3) := by decide +kernel
theorem dAc_lowerDigits_4 : decode ccAc_lowerDigits 4 = .ok (.lreturn, 1) := by decide +kernel
def fAc_lowerDigits (z0 : SC)  : Int64 :=
  c_lower z0
set_option maxHeartbeats 4000000 in
set_option maxRecDepth 100000 in
theorem kAc_lowerDigits (l : Launch) (D : va_G) (q : Nat → Nat) (cI cJ cZ : ClassId) (hq : c_inj q) (z0 : SC)   : Met l yAc_lowerDigits wsAc_lowerDigits { frames := 0, cells := 0, slots := 0, locals := 0 } (va_Pc [.ref (q 5)] (c_C D q cI cJ cZ z0)) (cQr (some (.long (fAc_lowerDigits z0)))) 0 0 (fun _ => False) := by
  refine Met.ofW (cc := ccAc_lowerDigits) (maxL := 1) (ret := (some .long)) (by decide +kernel) rfl ?_
  intro p e s m args below meth c s₁ B hml hv
  obtain ⟨rfl, hP, hK⟩ := hv
  have hx := B.exec
  have hb := B.bytes
  have hr := B.returns
  have hts := atoms_spec (ws := wsAc_lowerDigits) B.pre
  have hown : s.vm.findClass RAc = some m.cls := findClass_of_methodNamed B.named
  have hlocks := B.notSynchronized
  have w0 := hts (.fieldLink RAc 13 "DrumMachine$Accumulator" "lower" "J") (List.mem_cons_of_mem _ wm1_98)
  have i0 : ∀ w ∈ u_ws RAc TAc 4, w ∈ wsAc_lowerDigits := fun w h => List.mem_cons_of_mem _ (inAAc w h)
  have hl := lv_entry ([.ref (q 5)]) (n := 1) (Nat.le_of_ble_eq_true rfl)
  rw [lg_entry_eq]
  generalize (lg_sl ([.ref (q 5)]) ++ List.replicate (1 - (lg_sl ([.ref (q 5)])).length) Slot.unset).toArray = ls at hl ⊢
  have hl : lv_has ls 1 [(0, .ref (q 5))] := hl
  have hR := fAc_lowerDigits.eq_1 z0
  refine lv_aload_n hx hb dAc_lowerDigits_0 rfl (lv_at hl 0 rfl) ?_
  refine cg5_lower hx hb hts i0 hown hK hP w0 dAc_lowerDigits_1 ?_
  exact W.lret hx hb hr (fun t ht _ => ⟨by rw [hR]; first | done | rfl, ht⟩) (fun _ h => absurd h List.not_mem_nil) dAc_lowerDigits_4
theorem dAc_isMinus_0 : decode ccAc_isMinus 0 = .ok (.aload_n 0, 1) := by decide +kernel
theorem dAc_isMinus_1 : decode ccAc_isMinus 1 = .ok (.getfield 16, 3) := by decide +kernel
theorem dAc_isMinus_4 : decode ccAc_isMinus 4 = .ok (.ireturn, 1) := by decide +kernel
def fAc_isMinus (z0 : SC)  : Bool :=
  c_amin z0
set_option maxHeartbeats 4000000 in
set_option maxRecDepth 100000 in
theorem kAc_isMinus (l : Launch) (D : va_G) (q : Nat → Nat) (cI cJ cZ : ClassId) (hq : c_inj q) (z0 : SC)   : Met l yAc_isMinus wsAc_isMinus { frames := 0, cells := 0, slots := 0, locals := 0 } (va_Pc [.ref (q 5)] (c_C D q cI cJ cZ z0)) (cQr (some (.int (bb (fAc_isMinus z0))))) 0 0 (fun _ => False) := by
  refine Met.ofW (cc := ccAc_isMinus) (maxL := 1) (ret := (some .boolean)) (by decide +kernel) rfl ?_
  intro p e s m args below meth c s₁ B hml hv
  obtain ⟨rfl, hP, hK⟩ := hv
  have hx := B.exec
  have hb := B.bytes
  have hr := B.returns
  have hts := atoms_spec (ws := wsAc_isMinus) B.pre
  have hown : s.vm.findClass RAc = some m.cls := findClass_of_methodNamed B.named
  have hlocks := B.notSynchronized
  have w0 := hts (.fieldLink RAc 16 "DrumMachine$Accumulator" "minus" "Z") (List.mem_cons_of_mem _ wm1_99)
  have i0 : ∀ w ∈ u_ws RAc TAc 4, w ∈ wsAc_isMinus := fun w h => List.mem_cons_of_mem _ (inAAc w h)
  have hl := lv_entry ([.ref (q 5)]) (n := 1) (Nat.le_of_ble_eq_true rfl)
  rw [lg_entry_eq]
  generalize (lg_sl ([.ref (q 5)]) ++ List.replicate (1 - (lg_sl ([.ref (q 5)])).length) Slot.unset).toArray = ls at hl ⊢
  have hl : lv_has ls 1 [(0, .ref (q 5))] := hl
  have hR := fAc_isMinus.eq_1 z0
  refine lv_aload_n hx hb dAc_isMinus_0 rfl (lv_at hl 0 rfl) ?_
  refine cg5_minus hx hb hts i0 hown hK hP w0 dAc_isMinus_1 ?_
  exact W.zret hx hb hr (nz_b _) (fun t ht _ => ⟨by rw [hR]; first | done | rfl, ht⟩) (fun _ h => absurd h List.not_mem_nil) dAc_isMinus_4
theorem dAc_isZero_0 : decode ccAc_isZero 0 = .ok (.aload_n 0, 1) := by decide +kernel
theorem dAc_isZero_1 : decode ccAc_isZero 1 = .ok (.getfield 7, 3) := by decide +kernel
theorem dAc_isZero_4 : decode ccAc_isZero 4 = .ok (.lconst 0, 1) := by decide +kernel
theorem dAc_isZero_5 : decode ccAc_isZero 5 = .ok (.lcmp, 1) := by decide +kernel
theorem dAc_isZero_6 : decode ccAc_isZero 6 = .ok (.ifCond .ne 16, 3) := by decide +kernel
theorem dAc_isZero_9 : decode ccAc_isZero 9 = .ok (.aload_n 0, 1) := by decide +kernel
theorem dAc_isZero_10 : decode ccAc_isZero 10 = .ok (.getfield 13, 3) := by decide +kernel
theorem dAc_isZero_13 : decode ccAc_isZero 13 = .ok (.lconst 0, 1) := by decide +kernel
theorem dAc_isZero_14 : decode ccAc_isZero 14 = .ok (.lcmp, 1) := by decide +kernel
theorem dAc_isZero_15 : decode ccAc_isZero 15 = .ok (.ifCond .ne 7, 3) := by decide +kernel
theorem dAc_isZero_18 : decode ccAc_isZero 18 = .ok (.iconst 1, 1) := by decide +kernel
theorem dAc_isZero_19 : decode ccAc_isZero 19 = .ok (.goto 4, 3) := by decide +kernel
theorem dAc_isZero_22 : decode ccAc_isZero 22 = .ok (.iconst 0, 1) := by decide +kernel
theorem dAc_isZero_23 : decode ccAc_isZero 23 = .ok (.ireturn, 1) := by decide +kernel
def fAc_isZero (z0 : SC)  : Bool :=
  (if (c_upper z0) = 0 then (if (c_lower z0) = 0 then true else false) else false)
set_option maxHeartbeats 4000000 in
set_option maxRecDepth 100000 in
theorem kAc_isZero (l : Launch) (D : va_G) (q : Nat → Nat) (cI cJ cZ : ClassId) (hq : c_inj q) (z0 : SC)   : Met l yAc_isZero wsAc_isZero { frames := 0, cells := 0, slots := 0, locals := 0 } (va_Pc [.ref (q 5)] (c_C D q cI cJ cZ z0)) (cQr (some (.int (bb (fAc_isZero z0))))) 0 0 (fun _ => False) := by
  refine Met.ofW (cc := ccAc_isZero) (maxL := 1) (ret := (some .boolean)) (by decide +kernel) rfl ?_
  intro p e s m args below meth c s₁ B hml hv
  obtain ⟨rfl, hP, hK⟩ := hv
  have hx := B.exec
  have hb := B.bytes
  have hr := B.returns
  have hts := atoms_spec (ws := wsAc_isZero) B.pre
  have hown : s.vm.findClass RAc = some m.cls := findClass_of_methodNamed B.named
  have hlocks := B.notSynchronized
  have w0 := hts (.fieldLink RAc 7 "DrumMachine$Accumulator" "upper" "J") (List.mem_cons_of_mem _ wm1_97)
  have w1 := hts (.fieldLink RAc 13 "DrumMachine$Accumulator" "lower" "J") (List.mem_cons_of_mem _ wm1_98)
  have i0 : ∀ w ∈ u_ws RAc TAc 4, w ∈ wsAc_isZero := fun w h => List.mem_cons_of_mem _ (inAAc w h)
  have hl := lv_entry ([.ref (q 5)]) (n := 1) (Nat.le_of_ble_eq_true rfl)
  rw [lg_entry_eq]
  generalize (lg_sl ([.ref (q 5)]) ++ List.replicate (1 - (lg_sl ([.ref (q 5)])).length) Slot.unset).toArray = ls at hl ⊢
  have hl : lv_has ls 1 [(0, .ref (q 5))] := hl
  have hR := fAc_isZero.eq_1 z0
  refine lv_aload_n hx hb dAc_isZero_0 rfl (lv_at hl 0 rfl) ?_
  refine cg5_upper hx hb hts i0 hown hK hP w0 dAc_isZero_1 ?_
  refine lv_lconst (v := 0) hx hb dAc_isZero_4 (by decide) ?_
  refine lc_ne hx hb dAc_isZero_5 dAc_isZero_6 rfl (fun h5 => ?_) (fun h5 => ?_)
  · have hR := hR.trans (if_neg h5)
    refine lv_iconst (v := 0) hx hb dAc_isZero_22 (by decide) ?_
    exact W.zret hx hb hr rfl (fun t ht _ => ⟨by rw [hR]; first | done | rfl, ht⟩) (fun _ h => absurd h List.not_mem_nil) dAc_isZero_23
  · have hR := hR.trans (if_pos h5)
    refine lv_aload_n hx hb dAc_isZero_9 rfl (lv_at hl 0 rfl) ?_
    refine cg5_lower hx hb hts i0 hown hK hP w1 dAc_isZero_10 ?_
    refine lv_lconst (v := 0) hx hb dAc_isZero_13 (by decide) ?_
    refine lc_ne hx hb dAc_isZero_14 dAc_isZero_15 rfl (fun h14 => ?_) (fun h14 => ?_)
    · have hR := hR.trans (if_neg h14)
      refine lv_iconst (v := 0) hx hb dAc_isZero_22 (by decide) ?_
      exact W.zret hx hb hr rfl (fun t ht _ => ⟨by rw [hR]; first | done | rfl, ht⟩) (fun _ h => absurd h List.not_mem_nil) dAc_isZero_23
    · have hR := hR.trans (if_pos h14)
      refine lv_iconst (v := 1) hx hb dAc_isZero_18 (by decide) ?_
      refine lv_goto hx hb dAc_isZero_19 rfl ?_
      exact W.zret hx hb hr rfl (fun t ht _ => ⟨by rw [hR]; first | done | rfl, ht⟩) (fun _ h => absurd h List.not_mem_nil) dAc_isZero_23
theorem dAc_hasOverflow_0 : decode ccAc_hasOverflow 0 = .ok (.aload_n 0, 1) := by decide +kernel
theorem dAc_hasOverflow_1 : decode ccAc_hasOverflow 1 = .ok (.getfield 20, 3) := by decide +kernel
theorem dAc_hasOverflow_4 : decode ccAc_hasOverflow 4 = .ok (.ireturn, 1) := by decide +kernel
def fAc_hasOverflow (z0 : SC)  : Bool :=
  c_ovf z0
set_option maxHeartbeats 4000000 in
set_option maxRecDepth 100000 in
theorem kAc_hasOverflow (l : Launch) (D : va_G) (q : Nat → Nat) (cI cJ cZ : ClassId) (hq : c_inj q) (z0 : SC)   : Met l yAc_hasOverflow wsAc_hasOverflow { frames := 0, cells := 0, slots := 0, locals := 0 } (va_Pc [.ref (q 5)] (c_C D q cI cJ cZ z0)) (cQr (some (.int (bb (fAc_hasOverflow z0))))) 0 0 (fun _ => False) := by
  refine Met.ofW (cc := ccAc_hasOverflow) (maxL := 1) (ret := (some .boolean)) (by decide +kernel) rfl ?_
  intro p e s m args below meth c s₁ B hml hv
  obtain ⟨rfl, hP, hK⟩ := hv
  have hx := B.exec
  have hb := B.bytes
  have hr := B.returns
  have hts := atoms_spec (ws := wsAc_hasOverflow) B.pre
  have hown : s.vm.findClass RAc = some m.cls := findClass_of_methodNamed B.named
  have hlocks := B.notSynchronized
  have w0 := hts (.fieldLink RAc 20 "DrumMachine$Accumulator" "overflow" "Z") (List.mem_cons_of_mem _ wm1_100)
  have i0 : ∀ w ∈ u_ws RAc TAc 4, w ∈ wsAc_hasOverflow := fun w h => List.mem_cons_of_mem _ (inAAc w h)
  have hl := lv_entry ([.ref (q 5)]) (n := 1) (Nat.le_of_ble_eq_true rfl)
  rw [lg_entry_eq]
  generalize (lg_sl ([.ref (q 5)]) ++ List.replicate (1 - (lg_sl ([.ref (q 5)])).length) Slot.unset).toArray = ls at hl ⊢
  have hl : lv_has ls 1 [(0, .ref (q 5))] := hl
  have hR := fAc_hasOverflow.eq_1 z0
  refine lv_aload_n hx hb dAc_hasOverflow_0 rfl (lv_at hl 0 rfl) ?_
  refine cg5_overflow hx hb hts i0 hown hK hP w0 dAc_hasOverflow_1 ?_
  exact W.zret hx hb hr (nz_b _) (fun t ht _ => ⟨by rw [hR]; first | done | rfl, ht⟩) (fun _ h => absurd h List.not_mem_nil) dAc_hasOverflow_4
theorem dAc_takeOverflow_0 : decode ccAc_takeOverflow 0 = .ok (.aload_n 0, 1) := by decide +kernel
theorem dAc_takeOverflow_1 : decode ccAc_takeOverflow 1 = .ok (.getfield 20, 3) := by decide +kernel
theorem dAc_takeOverflow_4 : decode ccAc_takeOverflow 4 = .ok (.istore_n 1, 1) := by decide +kernel
theorem dAc_takeOverflow_5 : decode ccAc_takeOverflow 5 = .ok (.aload_n 0, 1) := by decide +kernel
theorem dAc_takeOverflow_6 : decode ccAc_takeOverflow 6 = .ok (.iconst 0, 1) := by decide +kernel
theorem dAc_takeOverflow_7 : decode ccAc_takeOverflow 7 = .ok (.putfield 20, 3) := by decide +kernel
theorem dAc_takeOverflow_10 : decode ccAc_takeOverflow 10 = .ok (.iload_n 1, 1) := by decide +kernel
theorem dAc_takeOverflow_11 : decode ccAc_takeOverflow 11 = .ok (.ireturn, 1) := by decide +kernel
def fAc_takeOverflow (z0 : SC)  : Bool × SC :=
  (c_ovf z0, c_ovf_s z0 false)
set_option maxHeartbeats 4000000 in
set_option maxRecDepth 100000 in
theorem kAc_takeOverflow (l : Launch) (D : va_G) (q : Nat → Nat) (cI cJ cZ : ClassId) (hq : c_inj q) (z0 : SC)   : Met l yAc_takeOverflow wsAc_takeOverflow { frames := 0, cells := 0, slots := 0, locals := 0 } (va_Pc [.ref (q 5)] (c_C D q cI cJ cZ z0)) (cQw (some (.int (bb ((fAc_takeOverflow z0).1)))) (c_W D q cI cJ cZ (fAc_takeOverflow z0).2) (c_qs q)) 0 0 (c_qs q) := by
  refine Met.ofW (cc := ccAc_takeOverflow) (maxL := 2) (ret := (some .boolean)) (by decide +kernel) rfl ?_
  intro p e s m args below meth c s₁ B hml hv
  obtain ⟨rfl, hP, hK⟩ := hv
  have hx := B.exec
  have hb := B.bytes
  have hr := B.returns
  have hts := atoms_spec (ws := wsAc_takeOverflow) B.pre
  have hown : s.vm.findClass RAc = some m.cls := findClass_of_methodNamed B.named
  have hlocks := B.notSynchronized
  have w0 := hts (.fieldLink RAc 20 "DrumMachine$Accumulator" "overflow" "Z") (List.mem_cons_of_mem _ wm1_100)
  have i0 : ∀ w ∈ u_ws RAc TAc 4, w ∈ wsAc_takeOverflow := fun w h => List.mem_cons_of_mem _ (inAAc w h)
  have hS : va_S (c_qs q) s.heap s.heap [] := va_S.rf
  have hl := lv_entry ([.ref (q 5)]) (n := 2) (Nat.le_of_ble_eq_true rfl)
  rw [lg_entry_eq]
  generalize (lg_sl ([.ref (q 5)]) ++ List.replicate (2 - (lg_sl ([.ref (q 5)])).length) Slot.unset).toArray = ls at hl ⊢
  have hl : lv_has ls 2 [(0, .ref (q 5))] := hl
  have hR := fAc_takeOverflow.eq_1 z0
  refine lv_aload_n hx hb dAc_takeOverflow_0 rfl (lv_at hl 0 rfl) ?_
  refine cg5_overflow hx hb hts i0 hown hK hP w0 dAc_takeOverflow_1 ?_
  refine lv_istore_n (lv' := [(1, .int (bb (c_ovf z0))), (0, .ref (q 5))]) hx hb dAc_takeOverflow_4 rfl hl (by decide) rfl (fun ls hl => ?_)
  refine lv_aload_n hx hb dAc_takeOverflow_5 rfl (lv_at hl 1 rfl) ?_
  refine lv_iconst (v := 0) hx hb dAc_takeOverflow_6 (by decide) ?_
  refine cp5_overflow false hq hS hx hb hts i0 hown hK hP w0 dAc_takeOverflow_7 (fun H locs hP hS => ?_)
  refine lv_iload_n hx hb dAc_takeOverflow_10 rfl (lv_at hl 0 rfl) ?_
  exact W.zret hx hb hr (nz_b _) (fun t ht _ => ⟨by rw [hR]; first | done | rfl, by rw [hR, ht]; exact hP, hS.F ht⟩) hS.2.2 dAc_takeOverflow_11
theorem dAc_reset_0 : decode ccAc_reset 0 = .ok (.aload_n 0, 1) := by decide +kernel
theorem dAc_reset_1 : decode ccAc_reset 1 = .ok (.lconst 0, 1) := by decide +kernel
theorem dAc_reset_2 : decode ccAc_reset 2 = .ok (.putfield 7, 3) := by decide +kernel
theorem dAc_reset_5 : decode ccAc_reset 5 = .ok (.aload_n 0, 1) := by decide +kernel
theorem dAc_reset_6 : decode ccAc_reset 6 = .ok (.lconst 0, 1) := by decide +kernel
theorem dAc_reset_7 : decode ccAc_reset 7 = .ok (.putfield 13, 3) := by decide +kernel
theorem dAc_reset_10 : decode ccAc_reset 10 = .ok (.aload_n 0, 1) := by decide +kernel
theorem dAc_reset_11 : decode ccAc_reset 11 = .ok (.iconst 0, 1) := by decide +kernel
theorem dAc_reset_12 : decode ccAc_reset 12 = .ok (.putfield 16, 3) := by decide +kernel
theorem dAc_reset_15 : decode ccAc_reset 15 = .ok (.return_, 1) := by decide +kernel
def fAc_reset (z0 : SC)  : SC :=
  c_amin_s (c_lower_s (c_upper_s z0 0) 0) false
set_option maxHeartbeats 4000000 in
set_option maxRecDepth 100000 in
theorem kAc_reset (l : Launch) (D : va_G) (q : Nat → Nat) (cI cJ cZ : ClassId) (hq : c_inj q) (z0 : SC)   : Met l yAc_reset wsAc_reset { frames := 0, cells := 0, slots := 0, locals := 0 } (va_Pc [.ref (q 5)] (c_C D q cI cJ cZ z0)) (cQw none (c_W D q cI cJ cZ (fAc_reset z0)) (c_qs q)) 0 0 (c_qs q) := by
  refine Met.ofW (cc := ccAc_reset) (maxL := 1) (ret := none) (by decide +kernel) rfl ?_
  intro p e s m args below meth c s₁ B hml hv
  obtain ⟨rfl, hP, hK⟩ := hv
  have hx := B.exec
  have hb := B.bytes
  have hr := B.returns
  have hts := atoms_spec (ws := wsAc_reset) B.pre
  have hown : s.vm.findClass RAc = some m.cls := findClass_of_methodNamed B.named
  have hlocks := B.notSynchronized
  have w0 := hts (.fieldLink RAc 7 "DrumMachine$Accumulator" "upper" "J") (List.mem_cons_of_mem _ wm1_97)
  have w1 := hts (.fieldLink RAc 13 "DrumMachine$Accumulator" "lower" "J") (List.mem_cons_of_mem _ wm1_98)
  have w2 := hts (.fieldLink RAc 16 "DrumMachine$Accumulator" "minus" "Z") (List.mem_cons_of_mem _ wm1_99)
  have i0 : ∀ w ∈ u_ws RAc TAc 4, w ∈ wsAc_reset := fun w h => List.mem_cons_of_mem _ (inAAc w h)
  have hS : va_S (c_qs q) s.heap s.heap [] := va_S.rf
  have hl := lv_entry ([.ref (q 5)]) (n := 1) (Nat.le_of_ble_eq_true rfl)
  rw [lg_entry_eq]
  generalize (lg_sl ([.ref (q 5)]) ++ List.replicate (1 - (lg_sl ([.ref (q 5)])).length) Slot.unset).toArray = ls at hl ⊢
  have hl : lv_has ls 1 [(0, .ref (q 5))] := hl
  have hR := fAc_reset.eq_1 z0
  refine lv_aload_n hx hb dAc_reset_0 rfl (lv_at hl 0 rfl) ?_
  refine lv_lconst (v := 0) hx hb dAc_reset_1 (by decide) ?_
  refine cp5_upper 0 hq hS hx hb hts i0 hown hK hP w0 dAc_reset_2 (fun H locs hP hS => ?_)
  refine lv_aload_n hx hb dAc_reset_5 rfl (lv_at hl 0 rfl) ?_
  refine lv_lconst (v := 0) hx hb dAc_reset_6 (by decide) ?_
  refine cp5_lower 0 hq hS hx hb hts i0 hown hK hP w1 dAc_reset_7 (fun H locs hP hS => ?_)
  refine lv_aload_n hx hb dAc_reset_10 rfl (lv_at hl 0 rfl) ?_
  refine lv_iconst (v := 0) hx hb dAc_reset_11 (by decide) ?_
  refine cp5_minus false hq hS hx hb hts i0 hown hK hP w2 dAc_reset_12 (fun H locs hP hS => ?_)
  exact W.vret hx hb hr (fun t ht _ => ⟨rfl, by rw [hR, ht]; exact hP, hS.F ht⟩) hS.2.2 dAc_reset_15
theorem dAc_putDataAddress_0 : decode ccAc_putDataAddress 0 = .ok (.aload_n 0, 1) := by decide +kernel
theorem dAc_putDataAddress_1 : decode ccAc_putDataAddress 1 = .ok (.aload_n 0, 1) := by decide +kernel
theorem dAc_putDataAddress_2 : decode ccAc_putDataAddress 2 = .ok (.getfield 13, 3) := by decide +kernel
theorem dAc_putDataAddress_5 : decode ccAc_putDataAddress 5 = .ok (.iload_n 1, 1) := by decide +kernel
theorem dAc_putDataAddress_6 : decode ccAc_putDataAddress 6 = .ok (.invokestatic 23, 3) := by decide +kernel
theorem dAc_putDataAddress_9 : decode ccAc_putDataAddress 9 = .ok (.putfield 13, 3) := by decide +kernel
theorem dAc_putDataAddress_12 : decode ccAc_putDataAddress 12 = .ok (.return_, 1) := by decide +kernel
def fAc_putDataAddress (z0 : SC) (a : Int32) : SC :=
  c_lower_s z0 (fDg_withDataAddress (c_lower z0) a)
set_option maxHeartbeats 4000000 in
set_option maxRecDepth 100000 in
theorem kAc_putDataAddress (l : Launch) (D : va_G) (q : Nat → Nat) (cI cJ cZ : ClassId) (hq : c_inj q) (z0 : SC) (a : Int32)  : Met l yAc_putDataAddress wsAc_putDataAddress { frames := 1, cells := 0, slots := 0, locals := 24 } (va_Pc [.ref (q 5), .int (a)] (c_C D q cI cJ cZ z0)) (cQw none (c_W D q cI cJ cZ (fAc_putDataAddress z0 a)) (c_qs q)) 0 0 (c_qs q) := by
  refine Met.ofW (cc := ccAc_putDataAddress) (maxL := 2) (ret := none) (by decide +kernel) rfl ?_
  intro p e s m args below meth c s₁ B hml hv
  obtain ⟨rfl, hP, hK⟩ := hv
  have hx := B.exec
  have hb := B.bytes
  have hr := B.returns
  have hts := atoms_spec (ws := wsAc_putDataAddress) B.pre
  have hown : s.vm.findClass RAc = some m.cls := findClass_of_methodNamed B.named
  have hlocks := B.notSynchronized
  have w0 := hts (.fieldLink RAc 13 "DrumMachine$Accumulator" "lower" "J") (List.mem_cons_of_mem _ wm1_98)
  have i0 : ∀ w ∈ u_ws RAc TAc 4, w ∈ wsAc_putDataAddress := fun w h => List.mem_cons_of_mem _ (inAAc w h)
  have hS : va_S (c_qs q) s.heap s.heap [] := va_S.rf
  have hl := lv_entry ([.ref (q 5), .int (a)]) (n := 2) (Nat.le_of_ble_eq_true rfl)
  rw [lg_entry_eq]
  generalize (lg_sl ([.ref (q 5), .int (a)]) ++ List.replicate (2 - (lg_sl ([.ref (q 5), .int (a)])).length) Slot.unset).toArray = ls at hl ⊢
  have hl : lv_has ls 2 [(0, .ref (q 5)), (1, .int (a))] := hl
  have hR := fAc_putDataAddress.eq_1 z0 a
  refine lv_aload_n hx hb dAc_putDataAddress_0 rfl (lv_at hl 0 rfl) ?_
  refine lv_aload_n hx hb dAc_putDataAddress_1 rfl (lv_at hl 0 rfl) ?_
  refine cg5_lower hx hb hts i0 hown hK hP w0 dAc_putDataAddress_2 ?_
  refine lv_iload_n hx hb dAc_putDataAddress_5 rfl (lv_at hl 1 rfl) ?_
  refine cl_rd (W.runS (As := [.long ((c_lower z0)), .int (a)]) (rest := [.ref (q 5)]) ⟨hx, hb, hml, hown, hts⟩ (kDg_withDataAddress l (c_lower z0) a) (va_cwS 2 hts (gS wm4_18 wm4_4 wm1_14 wm4_5) rfl rfl rfl (by decide +kernel) ⟨Nat.le_of_ble_eq_true rfl, Nat.le_of_ble_eq_true rfl⟩) (preT) rfl rfl hl.1 rfl (lv_room (Nat.le_of_ble_eq_true rfl)) dAc_putDataAddress_6 ⟨Nat.le_refl _, Nat.le_refl _⟩) ?_
  refine cp5_lower (fDg_withDataAddress (c_lower z0) a) hq hS hx hb hts i0 hown hK hP w0 dAc_putDataAddress_9 (fun H locs hP hS => ?_)
  exact W.vret hx hb hr (fun t ht _ => ⟨rfl, by rw [hR, ht]; exact hP, hS.F ht⟩) hS.2.2 dAc_putDataAddress_12
theorem dAc_add_0 : decode ccAc_add 0 = .ok (.aload_n 0, 1) := by decide +kernel
theorem dAc_add_1 : decode ccAc_add 1 = .ok (.getfield 16, 3) := by decide +kernel
theorem dAc_add_4 : decode ccAc_add 4 = .ok (.iload 5, 2) := by decide +kernel
theorem dAc_add_6 : decode ccAc_add 6 = .ok (.if_icmp .ne 7, 3) := by decide +kernel
theorem dAc_add_9 : decode ccAc_add 9 = .ok (.iconst 1, 1) := by decide +kernel
theorem dAc_add_10 : decode ccAc_add 10 = .ok (.goto 4, 3) := by decide +kernel
theorem dAc_add_13 : decode ccAc_add 13 = .ok (.iconst (-1), 1) := by decide +kernel
theorem dAc_add_14 : decode ccAc_add 14 = .ok (.istore 6, 2) := by decide +kernel
theorem dAc_add_16 : decode ccAc_add 16 = .ok (.aload_n 0, 1) := by decide +kernel
theorem dAc_add_17 : decode ccAc_add 17 = .ok (.getfield 7, 3) := by decide +kernel
theorem dAc_add_20 : decode ccAc_add 20 = .ok (.iload 6, 2) := by decide +kernel
theorem dAc_add_22 : decode ccAc_add 22 = .ok (.i2l, 1) := by decide +kernel
theorem dAc_add_23 : decode ccAc_add 23 = .ok (.lload_n 1, 1) := by decide +kernel
theorem dAc_add_24 : decode ccAc_add 24 = .ok (.lmul, 1) := by decide +kernel
theorem dAc_add_25 : decode ccAc_add 25 = .ok (.ladd, 1) := by decide +kernel
theorem dAc_add_26 : decode ccAc_add 26 = .ok (.lstore 7, 2) := by decide +kernel
theorem dAc_add_28 : decode ccAc_add 28 = .ok (.aload_n 0, 1) := by decide +kernel
theorem dAc_add_29 : decode ccAc_add 29 = .ok (.getfield 13, 3) := by decide +kernel
theorem dAc_add_32 : decode ccAc_add 32 = .ok (.iload 6, 2) := by decide +kernel
theorem dAc_add_34 : decode ccAc_add 34 = .ok (.i2l, 1) := by decide +kernel
theorem dAc_add_35 : decode ccAc_add 35 = .ok (.lload_n 3, 1) := by decide +kernel
theorem dAc_add_36 : decode ccAc_add 36 = .ok (.lmul, 1) := by decide +kernel
theorem dAc_add_37 : decode ccAc_add 37 = .ok (.ladd, 1) := by decide +kernel
theorem dAc_add_38 : decode ccAc_add 38 = .ok (.lstore 9, 2) := by decide +kernel
theorem dAc_add_40 : decode ccAc_add 40 = .ok (.lload 7, 2) := by decide +kernel
theorem dAc_add_42 : decode ccAc_add 42 = .ok (.lconst 0, 1) := by decide +kernel
theorem dAc_add_43 : decode ccAc_add 43 = .ok (.lcmp, 1) := by decide +kernel
theorem dAc_add_44 : decode ccAc_add 44 = .ok (.ifCond .lt 17, 3) := by decide +kernel
theorem dAc_add_47 : decode ccAc_add 47 = .ok (.lload 7, 2) := by decide +kernel
theorem dAc_add_49 : decode ccAc_add 49 = .ok (.lconst 0, 1) := by decide +kernel
theorem dAc_add_50 : decode ccAc_add 50 = .ok (.lcmp, 1) := by decide +kernel
theorem dAc_add_51 : decode ccAc_add 51 = .ok (.ifCond .ne 26, 3) := by decide +kernel
theorem dAc_add_54 : decode ccAc_add 54 = .ok (.lload 9, 2) := by decide +kernel
theorem dAc_add_56 : decode ccAc_add 56 = .ok (.lconst 0, 1) := by decide +kernel
theorem dAc_add_57 : decode ccAc_add 57 = .ok (.lcmp, 1) := by decide +kernel
theorem dAc_add_58 : decode ccAc_add 58 = .ok (.ifCond .ge 19, 3) := by decide +kernel
theorem dAc_add_61 : decode ccAc_add 61 = .ok (.lload 7, 2) := by decide +kernel
theorem dAc_add_63 : decode ccAc_add 63 = .ok (.lneg, 1) := by decide +kernel
theorem dAc_add_64 : decode ccAc_add 64 = .ok (.lstore 7, 2) := by decide +kernel
theorem dAc_add_66 : decode ccAc_add 66 = .ok (.lload 9, 2) := by decide +kernel
theorem dAc_add_68 : decode ccAc_add 68 = .ok (.lneg, 1) := by decide +kernel
theorem dAc_add_69 : decode ccAc_add 69 = .ok (.lstore 9, 2) := by decide +kernel
theorem dAc_add_71 : decode ccAc_add 71 = .ok (.aload_n 0, 1) := by decide +kernel
theorem dAc_add_72 : decode ccAc_add 72 = .ok (.iload 5, 2) := by decide +kernel
theorem dAc_add_74 : decode ccAc_add 74 = .ok (.putfield 16, 3) := by decide +kernel
theorem dAc_add_77 : decode ccAc_add 77 = .ok (.lload 7, 2) := by decide +kernel
theorem dAc_add_79 : decode ccAc_add 79 = .ok (.lload 9, 2) := by decide +kernel
theorem dAc_add_81 : decode ccAc_add 81 = .ok (.ldc2_w 29, 3) := by decide +kernel
theorem dAc_add_84 : decode ccAc_add 84 = .ok (.invokestatic 31, 3) := by decide +kernel
theorem dAc_add_87 : decode ccAc_add 87 = .ok (.ladd, 1) := by decide +kernel
theorem dAc_add_88 : decode ccAc_add 88 = .ok (.lstore 7, 2) := by decide +kernel
theorem dAc_add_90 : decode ccAc_add 90 = .ok (.aload_n 0, 1) := by decide +kernel
theorem dAc_add_91 : decode ccAc_add 91 = .ok (.lload 9, 2) := by decide +kernel
theorem dAc_add_93 : decode ccAc_add 93 = .ok (.ldc2_w 29, 3) := by decide +kernel
theorem dAc_add_96 : decode ccAc_add 96 = .ok (.invokestatic 37, 3) := by decide +kernel
theorem dAc_add_99 : decode ccAc_add 99 = .ok (.putfield 13, 3) := by decide +kernel
theorem dAc_add_102 : decode ccAc_add 102 = .ok (.aload_n 0, 1) := by decide +kernel
theorem dAc_add_103 : decode ccAc_add 103 = .ok (.lload 7, 2) := by decide +kernel
theorem dAc_add_105 : decode ccAc_add 105 = .ok (.ldc2_w 29, 3) := by decide +kernel
theorem dAc_add_108 : decode ccAc_add 108 = .ok (.lrem, 1) := by decide +kernel
theorem dAc_add_109 : decode ccAc_add 109 = .ok (.putfield 7, 3) := by decide +kernel
theorem dAc_add_112 : decode ccAc_add 112 = .ok (.lload 7, 2) := by decide +kernel
theorem dAc_add_114 : decode ccAc_add 114 = .ok (.ldc2_w 29, 3) := by decide +kernel
theorem dAc_add_117 : decode ccAc_add 117 = .ok (.lcmp, 1) := by decide +kernel
theorem dAc_add_118 : decode ccAc_add 118 = .ok (.ifCond .lt 8, 3) := by decide +kernel
theorem dAc_add_121 : decode ccAc_add 121 = .ok (.aload_n 0, 1) := by decide +kernel
theorem dAc_add_122 : decode ccAc_add 122 = .ok (.iconst 1, 1) := by decide +kernel
theorem dAc_add_123 : decode ccAc_add 123 = .ok (.putfield 20, 3) := by decide +kernel
theorem dAc_add_126 : decode ccAc_add 126 = .ok (.return_, 1) := by decide +kernel
def fAc_add_77  (z : SC) (v7 : Int64) (v9 : Int64) : SC :=
  (if (v7 + (fMa_floorDiv v9 10000000000)) < 10000000000 then c_upper_s (c_lower_s z (fMa_floorMod v9 10000000000)) ((v7 + (fMa_floorDiv v9 10000000000)) % 10000000000) else c_ovf_s (c_upper_s (c_lower_s z (fMa_floorMod v9 10000000000)) ((v7 + (fMa_floorDiv v9 10000000000)) % 10000000000)) true)
def fAc_add_61  (z : SC) (b : Bool) (v7 : Int64) (v9 : Int64) : SC :=
  fAc_add_77 (c_amin_s z b) (-v7) (-v9)
def fAc_add_14  (z : SC) (s0 : Int32) (u : Int64) (w : Int64) (b : Bool) : SC :=
  (if ((c_upper z) + (s0.toInt64 * u)) < 0 then fAc_add_61 z b ((c_upper z) + (s0.toInt64 * u)) ((c_lower z) + (s0.toInt64 * w)) else (if ((c_upper z) + (s0.toInt64 * u)) = 0 then (if 0 ≤ ((c_lower z) + (s0.toInt64 * w)) then fAc_add_77 z ((c_upper z) + (s0.toInt64 * u)) ((c_lower z) + (s0.toInt64 * w)) else fAc_add_61 z b ((c_upper z) + (s0.toInt64 * u)) ((c_lower z) + (s0.toInt64 * w))) else fAc_add_77 z ((c_upper z) + (s0.toInt64 * u)) ((c_lower z) + (s0.toInt64 * w))))
def fAc_add (z0 : SC) (u : Int64) (w : Int64) (b : Bool) : SC :=
  (if (c_amin z0) = b then fAc_add_14 z0 1 u w b else fAc_add_14 z0 ((-1)) u w b)
set_option maxHeartbeats 4000000 in
set_option maxRecDepth 100000 in
theorem kAc_add (l : Launch) (D : va_G) (q : Nat → Nat) (cI cJ cZ : ClassId) (hq : c_inj q) (z0 : SC) (u : Int64) (w : Int64) (b : Bool)  : Met l yAc_add wsAc_add { frames := 1, cells := 0, slots := 0, locals := 25 } (va_Pc [.ref (q 5), .long (u), .long (w), .int (bb (b))] (c_C D q cI cJ cZ z0)) (cQw none (c_W D q cI cJ cZ (fAc_add z0 u w b)) (c_qs q)) 0 0 (c_qs q) := by
  refine Met.ofW (cc := ccAc_add) (maxL := 11) (ret := none) (by decide +kernel) rfl ?_
  intro p e s m args below meth c s₁ B hml hv
  obtain ⟨rfl, hP, hK⟩ := hv
  have hx := B.exec
  have hb := B.bytes
  have hr := B.returns
  have hts := atoms_spec (ws := wsAc_add) B.pre
  have hown : s.vm.findClass RAc = some m.cls := findClass_of_methodNamed B.named
  have hlocks := B.notSynchronized
  have w0 := hts (.constantLong RAc 29 (10000000000)) (List.mem_cons_of_mem _ wm3_191)
  have w1 := hts (.fieldLink RAc 13 "DrumMachine$Accumulator" "lower" "J") (List.mem_cons_of_mem _ wm1_98)
  have w2 := hts (.fieldLink RAc 7 "DrumMachine$Accumulator" "upper" "J") (List.mem_cons_of_mem _ wm1_97)
  have w3 := hts (.fieldLink RAc 20 "DrumMachine$Accumulator" "overflow" "Z") (List.mem_cons_of_mem _ wm1_100)
  have w4 := hts (.fieldLink RAc 16 "DrumMachine$Accumulator" "minus" "Z") (List.mem_cons_of_mem _ wm1_99)
  have i0 : ∀ w ∈ u_ws RAc TAc 4, w ∈ wsAc_add := fun w h => List.mem_cons_of_mem _ (inAAc w h)
  have hS : va_S (c_qs q) s.heap s.heap [] := va_S.rf
  have hl := lv_entry ([.ref (q 5), .long (u), .long (w), .int (bb (b))]) (n := 11) (Nat.le_of_ble_eq_true rfl)
  rw [lg_entry_eq]
  generalize (lg_sl ([.ref (q 5), .long (u), .long (w), .int (bb (b))]) ++ List.replicate (11 - (lg_sl ([.ref (q 5), .long (u), .long (w), .int (bb (b))])).length) Slot.unset).toArray = ls at hl ⊢
  have hl : lv_has ls 11 [(0, .ref (q 5)), (1, .long (u)), (3, .long (w)), (5, .int (bb (b)))] := hl
  have hB77 : ∀ (H : Heap) (locs : List Loc) (ls : Array Slot) (z : SC) (v7 : Int64) (v9 : Int64), fAc_add z0 u w b = fAc_add_77 z v7 v9 → c_W D q cI cJ cZ z H → va_S (c_qs q) s.heap H locs → lv_has ls 11 [(0, .ref (q 5)), (7, .long (v7)), (9, .long (v9))] → W p l e (headSpec wsAc_add { frames := 1, cells := 0, slots := 0, locals := 25 }).room s m ([.ref (q 5), .long (u), .long (w), .int (bb (b))] : List Value).toArray below meth c H locs 0 0 (MQ below (cQw none (c_W D q cI cJ cZ (fAc_add z0 u w b)) (c_qs q)) ([.ref (q 5), .long (u), .long (w), .int (bb (b))] : List Value).toArray s 0 0 (c_qs q)) (F0 m 77 ls []) := by
    intro H locs ls z v7 v9 hR hP hS hl
    rw [fAc_add_77.eq_1] at hR
    refine lv_lload hx hb dAc_add_77 (lv_at hl 1 rfl) ?_
    refine lv_lload hx hb dAc_add_79 (lv_at hl 2 rfl) ?_
    refine lv_ldc2 (v := 10000000000) hx hb hown w0 dAc_add_81 ?_
    refine cl_rd (W.runS (As := [.long (v9), .long (10000000000)]) (rest := [.long (v7)]) ⟨hx, hb, hml, hown, hts⟩ (kMa_floorDiv l v9 10000000000 (by decide)) (va_cwS 2 hts (gS wm3_192 wm3_193 wm1_19 wm3_194) rfl rfl rfl (by decide +kernel) ⟨Nat.le_of_ble_eq_true rfl, Nat.le_of_ble_eq_true rfl⟩) (preT) rfl rfl hl.1 rfl (lv_room (Nat.le_of_ble_eq_true rfl)) dAc_add_84 ⟨Nat.le_refl _, Nat.le_refl _⟩) ?_
    refine lv_ladd hx hb dAc_add_87 ?_
    refine lv_lstore (lv' := [(7, .long (v7 + (fMa_floorDiv v9 10000000000))), (0, .ref (q 5)), (9, .long (v9))]) hx hb dAc_add_88 hl (by decide) rfl (fun ls hl => ?_)
    refine lv_aload_n hx hb dAc_add_90 rfl (lv_at hl 1 rfl) ?_
    refine lv_lload hx hb dAc_add_91 (lv_at hl 2 rfl) ?_
    refine lv_ldc2 (v := 10000000000) hx hb hown w0 dAc_add_93 ?_
    refine cl_rd (W.runS (As := [.long (v9), .long (10000000000)]) (rest := [.ref (q 5)]) ⟨hx, hb, hml, hown, hts⟩ (kMa_floorMod l v9 10000000000 (by decide)) (va_cwS 2 hts (gS wm3_195 wm3_196 wm1_19 wm3_197) rfl rfl rfl (by decide +kernel) ⟨Nat.le_of_ble_eq_true rfl, Nat.le_of_ble_eq_true rfl⟩) (preT) rfl rfl hl.1 rfl (lv_room (Nat.le_of_ble_eq_true rfl)) dAc_add_96 ⟨Nat.le_refl _, Nat.le_refl _⟩) ?_
    refine cp5_lower (fMa_floorMod v9 10000000000) hq hS hx hb hts i0 hown hK hP w1 dAc_add_99 (fun H locs hP hS => ?_)
    refine lv_aload_n hx hb dAc_add_102 rfl (lv_at hl 1 rfl) ?_
    refine lv_lload hx hb dAc_add_103 (lv_at hl 0 rfl) ?_
    refine lv_ldc2 (v := 10000000000) hx hb hown w0 dAc_add_105 ?_
    refine lm_lrem hx hb dAc_add_108 (by decide) ?_
    refine cp5_upper ((v7 + (fMa_floorDiv v9 10000000000)) % 10000000000) hq hS hx hb hts i0 hown hK hP w2 dAc_add_109 (fun H locs hP hS => ?_)
    refine lv_lload hx hb dAc_add_112 (lv_at hl 0 rfl) ?_
    refine lv_ldc2 (v := 10000000000) hx hb hown w0 dAc_add_114 ?_
    refine lc_lt hx hb dAc_add_117 dAc_add_118 rfl (fun h117 => ?_) (fun h117 => ?_)
    · have hR := hR.trans (if_pos h117)
      exact W.vret hx hb hr (fun t ht _ => ⟨rfl, by rw [hR, ht]; exact hP, hS.F ht⟩) hS.2.2 dAc_add_126
    · have hR := hR.trans (if_neg h117)
      refine lv_aload_n hx hb dAc_add_121 rfl (lv_at hl 1 rfl) ?_
      refine lv_iconst (v := 1) hx hb dAc_add_122 (by decide) ?_
      refine cp5_overflow (true) hq hS hx hb hts i0 hown hK hP w3 dAc_add_123 (fun H locs hP hS => ?_)
      exact W.vret hx hb hr (fun t ht _ => ⟨rfl, by rw [hR, ht]; exact hP, hS.F ht⟩) hS.2.2 dAc_add_126
  have hB61 : ∀ (H : Heap) (locs : List Loc) (ls : Array Slot) (z : SC) (v7 : Int64) (v9 : Int64), fAc_add z0 u w b = fAc_add_61 z b v7 v9 → c_W D q cI cJ cZ z H → va_S (c_qs q) s.heap H locs → lv_has ls 11 [(0, .ref (q 5)), (5, .int (bb (b))), (7, .long (v7)), (9, .long (v9))] → W p l e (headSpec wsAc_add { frames := 1, cells := 0, slots := 0, locals := 25 }).room s m ([.ref (q 5), .long (u), .long (w), .int (bb (b))] : List Value).toArray below meth c H locs 0 0 (MQ below (cQw none (c_W D q cI cJ cZ (fAc_add z0 u w b)) (c_qs q)) ([.ref (q 5), .long (u), .long (w), .int (bb (b))] : List Value).toArray s 0 0 (c_qs q)) (F0 m 61 ls []) := by
    intro H locs ls z v7 v9 hR hP hS hl
    rw [fAc_add_61.eq_1] at hR
    refine lv_lload hx hb dAc_add_61 (lv_at hl 2 rfl) ?_
    refine lv_lneg hx hb dAc_add_63 ?_
    refine lv_lstore (lv' := [(7, .long (-v7)), (0, .ref (q 5)), (5, .int (bb (b))), (9, .long (v9))]) hx hb dAc_add_64 hl (by decide) rfl (fun ls hl => ?_)
    refine lv_lload hx hb dAc_add_66 (lv_at hl 3 rfl) ?_
    refine lv_lneg hx hb dAc_add_68 ?_
    refine lv_lstore (lv' := [(9, .long (-v9)), (7, .long (-v7)), (0, .ref (q 5)), (5, .int (bb (b)))]) hx hb dAc_add_69 hl (by decide) rfl (fun ls hl => ?_)
    refine lv_aload_n hx hb dAc_add_71 rfl (lv_at hl 2 rfl) ?_
    refine lv_iload hx hb dAc_add_72 (lv_at hl 3 rfl) ?_
    refine cp5_minus b hq hS hx hb hts i0 hown hK hP w4 dAc_add_74 (fun H locs hP hS => ?_)
    exact hB77 H locs ls (c_amin_s z b) (-v7) (-v9) hR hP hS (lv_sub hl [2, 1, 0] rfl)
  have hB14 : ∀ (H : Heap) (locs : List Loc) (ls : Array Slot) (z : SC) (s0 : Int32), fAc_add z0 u w b = fAc_add_14 z s0 u w b → c_W D q cI cJ cZ z H → va_S (c_qs q) s.heap H locs → lv_has ls 11 [(0, .ref (q 5)), (1, .long (u)), (3, .long (w)), (5, .int (bb (b)))] → W p l e (headSpec wsAc_add { frames := 1, cells := 0, slots := 0, locals := 25 }).room s m ([.ref (q 5), .long (u), .long (w), .int (bb (b))] : List Value).toArray below meth c H locs 0 0 (MQ below (cQw none (c_W D q cI cJ cZ (fAc_add z0 u w b)) (c_qs q)) ([.ref (q 5), .long (u), .long (w), .int (bb (b))] : List Value).toArray s 0 0 (c_qs q)) (F0 m 14 ls [.int (s0)]) := by
    intro H locs ls z s0 hR hP hS hl
    rw [fAc_add_14.eq_1] at hR
    refine lv_istore (lv' := [(6, .int (s0)), (0, .ref (q 5)), (1, .long (u)), (3, .long (w)), (5, .int (bb (b)))]) hx hb dAc_add_14 hl (by decide) rfl (fun ls hl => ?_)
    refine lv_aload_n hx hb dAc_add_16 rfl (lv_at hl 1 rfl) ?_
    refine cg5_upper hx hb hts i0 hown hK hP w2 dAc_add_17 ?_
    refine lv_iload hx hb dAc_add_20 (lv_at hl 0 rfl) ?_
    refine lv_i2l hx hb dAc_add_22 rfl ?_
    refine lv_lload_n hx hb dAc_add_23 rfl (lv_at hl 2 rfl) ?_
    refine lv_lmul hx hb dAc_add_24 ?_
    refine lv_ladd hx hb dAc_add_25 ?_
    refine lv_lstore (lv' := [(7, .long ((c_upper z) + (s0.toInt64 * u))), (6, .int (s0)), (0, .ref (q 5)), (1, .long (u)), (3, .long (w)), (5, .int (bb (b)))]) hx hb dAc_add_26 hl (by decide) rfl (fun ls hl => ?_)
    refine lv_aload_n hx hb dAc_add_28 rfl (lv_at hl 2 rfl) ?_
    refine cg5_lower hx hb hts i0 hown hK hP w1 dAc_add_29 ?_
    refine lv_iload hx hb dAc_add_32 (lv_at hl 1 rfl) ?_
    refine lv_i2l hx hb dAc_add_34 rfl ?_
    refine lv_lload_n hx hb dAc_add_35 rfl (lv_at hl 4 rfl) ?_
    refine lv_lmul hx hb dAc_add_36 ?_
    refine lv_ladd hx hb dAc_add_37 ?_
    refine lv_lstore (lv' := [(9, .long ((c_lower z) + (s0.toInt64 * w))), (7, .long ((c_upper z) + (s0.toInt64 * u))), (6, .int (s0)), (0, .ref (q 5)), (1, .long (u)), (3, .long (w)), (5, .int (bb (b)))]) hx hb dAc_add_38 hl (by decide) rfl (fun ls hl => ?_)
    refine lv_lload hx hb dAc_add_40 (lv_at hl 1 rfl) ?_
    refine lv_lconst (v := 0) hx hb dAc_add_42 (by decide) ?_
    refine lc_lt hx hb dAc_add_43 dAc_add_44 rfl (fun h43 => ?_) (fun h43 => ?_)
    · have hR := hR.trans (if_pos h43)
      exact hB61 H locs ls z ((c_upper z) + (s0.toInt64 * u)) ((c_lower z) + (s0.toInt64 * w)) hR hP hS (lv_sub hl [3, 6, 1, 0] rfl)
    · have hR := hR.trans (if_neg h43)
      refine lv_lload hx hb dAc_add_47 (lv_at hl 1 rfl) ?_
      refine lv_lconst (v := 0) hx hb dAc_add_49 (by decide) ?_
      refine lc_ne hx hb dAc_add_50 dAc_add_51 rfl (fun h50 => ?_) (fun h50 => ?_)
      · have hR := hR.trans (if_neg h50)
        exact hB77 H locs ls z ((c_upper z) + (s0.toInt64 * u)) ((c_lower z) + (s0.toInt64 * w)) hR hP hS (lv_sub hl [3, 1, 0] rfl)
      · have hR := hR.trans (if_pos h50)
        refine lv_lload hx hb dAc_add_54 (lv_at hl 0 rfl) ?_
        refine lv_lconst (v := 0) hx hb dAc_add_56 (by decide) ?_
        refine lc_ge hx hb dAc_add_57 dAc_add_58 rfl (fun h57 => ?_) (fun h57 => ?_)
        · have hR := hR.trans (if_pos h57)
          exact hB77 H locs ls z ((c_upper z) + (s0.toInt64 * u)) ((c_lower z) + (s0.toInt64 * w)) hR hP hS (lv_sub hl [3, 1, 0] rfl)
        · have hR := hR.trans (if_neg h57)
          exact hB61 H locs ls z ((c_upper z) + (s0.toInt64 * u)) ((c_lower z) + (s0.toInt64 * w)) hR hP hS (lv_sub hl [3, 6, 1, 0] rfl)
  have hR := fAc_add.eq_1 z0 u w b
  refine lv_aload_n hx hb dAc_add_0 rfl (lv_at hl 0 rfl) ?_
  refine cg5_minus hx hb hts i0 hown hK hP w4 dAc_add_1 ?_
  refine lv_iload hx hb dAc_add_4 (lv_at hl 3 rfl) ?_
  refine wz_cmpne hx hb dAc_add_6 rfl (fun h6 => ?_) (fun h6 => ?_)
  · have hR := hR.trans (if_neg h6)
    refine lv_iconst (v := (-1)) hx hb dAc_add_13 (by decide) ?_
    exact hB14 s.heap [] ls z0 ((-1)) hR hP hS (lv_sub hl [0, 1, 2, 3] rfl)
  · have hR := hR.trans (if_pos h6)
    refine lv_iconst (v := 1) hx hb dAc_add_9 (by decide) ?_
    refine lv_goto hx hb dAc_add_10 rfl ?_
    exact hB14 s.heap [] ls z0 1 hR hP hS (lv_sub hl [0, 1, 2, 3] rfl)
theorem dAc_multiply_0 : decode ccAc_multiply 0 = .ok (.aload_n 0, 1) := by decide +kernel
theorem dAc_multiply_1 : decode ccAc_multiply 1 = .ok (.getfield 7, 3) := by decide +kernel
theorem dAc_multiply_4 : decode ccAc_multiply 4 = .ok (.ldc2_w 40, 3) := by decide +kernel
theorem dAc_multiply_7 : decode ccAc_multiply 7 = .ok (.ldiv, 1) := by decide +kernel
theorem dAc_multiply_8 : decode ccAc_multiply 8 = .ok (.lload_n 1, 1) := by decide +kernel
theorem dAc_multiply_9 : decode ccAc_multiply 9 = .ok (.lmul, 1) := by decide +kernel
theorem dAc_multiply_10 : decode ccAc_multiply 10 = .ok (.lstore 4, 2) := by decide +kernel
theorem dAc_multiply_12 : decode ccAc_multiply 12 = .ok (.aload_n 0, 1) := by decide +kernel
theorem dAc_multiply_13 : decode ccAc_multiply 13 = .ok (.getfield 7, 3) := by decide +kernel
theorem dAc_multiply_16 : decode ccAc_multiply 16 = .ok (.ldc2_w 40, 3) := by decide +kernel
theorem dAc_multiply_19 : decode ccAc_multiply 19 = .ok (.lrem, 1) := by decide +kernel
theorem dAc_multiply_20 : decode ccAc_multiply 20 = .ok (.lload_n 1, 1) := by decide +kernel
theorem dAc_multiply_21 : decode ccAc_multiply 21 = .ok (.lmul, 1) := by decide +kernel
theorem dAc_multiply_22 : decode ccAc_multiply 22 = .ok (.lstore 6, 2) := by decide +kernel
theorem dAc_multiply_24 : decode ccAc_multiply 24 = .ok (.lload 4, 2) := by decide +kernel
theorem dAc_multiply_26 : decode ccAc_multiply 26 = .ok (.ldc2_w 40, 3) := by decide +kernel
theorem dAc_multiply_29 : decode ccAc_multiply 29 = .ok (.lrem, 1) := by decide +kernel
theorem dAc_multiply_30 : decode ccAc_multiply 30 = .ok (.ldc2_w 40, 3) := by decide +kernel
theorem dAc_multiply_33 : decode ccAc_multiply 33 = .ok (.lmul, 1) := by decide +kernel
theorem dAc_multiply_34 : decode ccAc_multiply 34 = .ok (.lload 6, 2) := by decide +kernel
theorem dAc_multiply_36 : decode ccAc_multiply 36 = .ok (.ladd, 1) := by decide +kernel
theorem dAc_multiply_37 : decode ccAc_multiply 37 = .ok (.aload_n 0, 1) := by decide +kernel
theorem dAc_multiply_38 : decode ccAc_multiply 38 = .ok (.getfield 13, 3) := by decide +kernel
theorem dAc_multiply_41 : decode ccAc_multiply 41 = .ok (.ladd, 1) := by decide +kernel
theorem dAc_multiply_42 : decode ccAc_multiply 42 = .ok (.lstore 8, 2) := by decide +kernel
theorem dAc_multiply_44 : decode ccAc_multiply 44 = .ok (.aload_n 0, 1) := by decide +kernel
theorem dAc_multiply_45 : decode ccAc_multiply 45 = .ok (.lload 4, 2) := by decide +kernel
theorem dAc_multiply_47 : decode ccAc_multiply 47 = .ok (.ldc2_w 40, 3) := by decide +kernel
theorem dAc_multiply_50 : decode ccAc_multiply 50 = .ok (.ldiv, 1) := by decide +kernel
theorem dAc_multiply_51 : decode ccAc_multiply 51 = .ok (.lload 8, 2) := by decide +kernel
theorem dAc_multiply_53 : decode ccAc_multiply 53 = .ok (.ldc2_w 29, 3) := by decide +kernel
theorem dAc_multiply_56 : decode ccAc_multiply 56 = .ok (.ldiv, 1) := by decide +kernel
theorem dAc_multiply_57 : decode ccAc_multiply 57 = .ok (.ladd, 1) := by decide +kernel
theorem dAc_multiply_58 : decode ccAc_multiply 58 = .ok (.putfield 7, 3) := by decide +kernel
theorem dAc_multiply_61 : decode ccAc_multiply 61 = .ok (.aload_n 0, 1) := by decide +kernel
theorem dAc_multiply_62 : decode ccAc_multiply 62 = .ok (.lload 8, 2) := by decide +kernel
theorem dAc_multiply_64 : decode ccAc_multiply 64 = .ok (.ldc2_w 29, 3) := by decide +kernel
theorem dAc_multiply_67 : decode ccAc_multiply 67 = .ok (.lrem, 1) := by decide +kernel
theorem dAc_multiply_68 : decode ccAc_multiply 68 = .ok (.putfield 13, 3) := by decide +kernel
theorem dAc_multiply_71 : decode ccAc_multiply 71 = .ok (.aload_n 0, 1) := by decide +kernel
theorem dAc_multiply_72 : decode ccAc_multiply 72 = .ok (.aload_n 0, 1) := by decide +kernel
theorem dAc_multiply_73 : decode ccAc_multiply 73 = .ok (.getfield 16, 3) := by decide +kernel
theorem dAc_multiply_76 : decode ccAc_multiply 76 = .ok (.iload_n 3, 1) := by decide +kernel
theorem dAc_multiply_77 : decode ccAc_multiply 77 = .ok (.if_icmp .eq 7, 3) := by decide +kernel
theorem dAc_multiply_80 : decode ccAc_multiply 80 = .ok (.iconst 1, 1) := by decide +kernel
theorem dAc_multiply_81 : decode ccAc_multiply 81 = .ok (.goto 4, 3) := by decide +kernel
theorem dAc_multiply_84 : decode ccAc_multiply 84 = .ok (.iconst 0, 1) := by decide +kernel
theorem dAc_multiply_85 : decode ccAc_multiply 85 = .ok (.putfield 16, 3) := by decide +kernel
theorem dAc_multiply_88 : decode ccAc_multiply 88 = .ok (.return_, 1) := by decide +kernel
def fAc_multiply_44  (z : SC) (b : Bool) (v4 : Int64) (v8 : Int64) : SC :=
  (if (c_amin z) = b then c_amin_s (c_lower_s (c_upper_s z ((v4 / 100000) + (v8 / 10000000000))) (v8 % 10000000000)) false else c_amin_s (c_lower_s (c_upper_s z ((v4 / 100000) + (v8 / 10000000000))) (v8 % 10000000000)) true)
def fAc_multiply (z0 : SC) (v : Int64) (b : Bool) : SC :=
  fAc_multiply_44 z0 b (((c_upper z0) / 100000) * v) (((((((c_upper z0) / 100000) * v) % 100000) * 100000) + (((c_upper z0) % 100000) * v)) + (c_lower z0))
set_option maxHeartbeats 4000000 in
set_option maxRecDepth 100000 in
theorem kAc_multiply (l : Launch) (D : va_G) (q : Nat → Nat) (cI cJ cZ : ClassId) (hq : c_inj q) (z0 : SC) (v : Int64) (b : Bool)  : Met l yAc_multiply wsAc_multiply { frames := 0, cells := 0, slots := 0, locals := 0 } (va_Pc [.ref (q 5), .long (v), .int (bb (b))] (c_C D q cI cJ cZ z0)) (cQw none (c_W D q cI cJ cZ (fAc_multiply z0 v b)) (c_qs q)) 0 0 (c_qs q) := by
  refine Met.ofW (cc := ccAc_multiply) (maxL := 10) (ret := none) (by decide +kernel) rfl ?_
  intro p e s m args below meth c s₁ B hml hv
  obtain ⟨rfl, hP, hK⟩ := hv
  have hx := B.exec
  have hb := B.bytes
  have hr := B.returns
  have hts := atoms_spec (ws := wsAc_multiply) B.pre
  have hown : s.vm.findClass RAc = some m.cls := findClass_of_methodNamed B.named
  have hlocks := B.notSynchronized
  have w0 := hts (.constantLong RAc 40 (100000)) (List.mem_cons_of_mem _ wm4_59)
  have w1 := hts (.constantLong RAc 29 (10000000000)) (List.mem_cons_of_mem _ wm3_191)
  have w2 := hts (.fieldLink RAc 7 "DrumMachine$Accumulator" "upper" "J") (List.mem_cons_of_mem _ wm1_97)
  have w3 := hts (.fieldLink RAc 13 "DrumMachine$Accumulator" "lower" "J") (List.mem_cons_of_mem _ wm1_98)
  have w4 := hts (.fieldLink RAc 16 "DrumMachine$Accumulator" "minus" "Z") (List.mem_cons_of_mem _ wm1_99)
  have i0 : ∀ w ∈ u_ws RAc TAc 4, w ∈ wsAc_multiply := fun w h => List.mem_cons_of_mem _ (inAAc w h)
  have hS : va_S (c_qs q) s.heap s.heap [] := va_S.rf
  have hl := lv_entry ([.ref (q 5), .long (v), .int (bb (b))]) (n := 10) (Nat.le_of_ble_eq_true rfl)
  rw [lg_entry_eq]
  generalize (lg_sl ([.ref (q 5), .long (v), .int (bb (b))]) ++ List.replicate (10 - (lg_sl ([.ref (q 5), .long (v), .int (bb (b))])).length) Slot.unset).toArray = ls at hl ⊢
  have hl : lv_has ls 10 [(0, .ref (q 5)), (1, .long (v)), (3, .int (bb (b)))] := hl
  have hB44 : ∀ (H : Heap) (locs : List Loc) (ls : Array Slot) (z : SC) (v4 : Int64) (v8 : Int64), fAc_multiply z0 v b = fAc_multiply_44 z b v4 v8 → c_W D q cI cJ cZ z H → va_S (c_qs q) s.heap H locs → lv_has ls 10 [(0, .ref (q 5)), (3, .int (bb (b))), (4, .long (v4)), (8, .long (v8))] → W p l e (headSpec wsAc_multiply { frames := 0, cells := 0, slots := 0, locals := 0 }).room s m ([.ref (q 5), .long (v), .int (bb (b))] : List Value).toArray below meth c H locs 0 0 (MQ below (cQw none (c_W D q cI cJ cZ (fAc_multiply z0 v b)) (c_qs q)) ([.ref (q 5), .long (v), .int (bb (b))] : List Value).toArray s 0 0 (c_qs q)) (F0 m 44 ls []) := by
    intro H locs ls z v4 v8 hR hP hS hl
    rw [fAc_multiply_44.eq_1] at hR
    refine lv_aload_n hx hb dAc_multiply_44 rfl (lv_at hl 0 rfl) ?_
    refine lv_lload hx hb dAc_multiply_45 (lv_at hl 2 rfl) ?_
    refine lv_ldc2 (v := 100000) hx hb hown w0 dAc_multiply_47 ?_
    refine lv_ldiv hx hb dAc_multiply_50 (by decide) ?_
    refine lv_lload hx hb dAc_multiply_51 (lv_at hl 3 rfl) ?_
    refine lv_ldc2 (v := 10000000000) hx hb hown w1 dAc_multiply_53 ?_
    refine lv_ldiv hx hb dAc_multiply_56 (by decide) ?_
    refine lv_ladd hx hb dAc_multiply_57 ?_
    refine cp5_upper ((v4 / 100000) + (v8 / 10000000000)) hq hS hx hb hts i0 hown hK hP w2 dAc_multiply_58 (fun H locs hP hS => ?_)
    refine lv_aload_n hx hb dAc_multiply_61 rfl (lv_at hl 0 rfl) ?_
    refine lv_lload hx hb dAc_multiply_62 (lv_at hl 3 rfl) ?_
    refine lv_ldc2 (v := 10000000000) hx hb hown w1 dAc_multiply_64 ?_
    refine lm_lrem hx hb dAc_multiply_67 (by decide) ?_
    refine cp5_lower (v8 % 10000000000) hq hS hx hb hts i0 hown hK hP w3 dAc_multiply_68 (fun H locs hP hS => ?_)
    refine lv_aload_n hx hb dAc_multiply_71 rfl (lv_at hl 0 rfl) ?_
    refine lv_aload_n hx hb dAc_multiply_72 rfl (lv_at hl 0 rfl) ?_
    refine cg5_minus_e (v := c_amin z) ((c_amin_lower _ _).trans ((c_amin_upper _ _).trans (rfl))) hx hb hts i0 hown hK hP w4 dAc_multiply_73 ?_
    refine lv_iload_n hx hb dAc_multiply_76 rfl (lv_at hl 1 rfl) ?_
    refine wz_cmpeq hx hb dAc_multiply_77 rfl (fun h77 => ?_) (fun h77 => ?_)
    · have hR := hR.trans (if_pos h77)
      refine lv_iconst (v := 0) hx hb dAc_multiply_84 (by decide) ?_
      refine cp5_minus false hq hS hx hb hts i0 hown hK hP w4 dAc_multiply_85 (fun H locs hP hS => ?_)
      exact W.vret hx hb hr (fun t ht _ => ⟨rfl, by rw [hR, ht]; exact hP, hS.F ht⟩) hS.2.2 dAc_multiply_88
    · have hR := hR.trans (if_neg h77)
      refine lv_iconst (v := 1) hx hb dAc_multiply_80 (by decide) ?_
      refine lv_goto hx hb dAc_multiply_81 rfl ?_
      refine cp5_minus (true) hq hS hx hb hts i0 hown hK hP w4 dAc_multiply_85 (fun H locs hP hS => ?_)
      exact W.vret hx hb hr (fun t ht _ => ⟨rfl, by rw [hR, ht]; exact hP, hS.F ht⟩) hS.2.2 dAc_multiply_88
  have hR := fAc_multiply.eq_1 z0 v b
  refine lv_aload_n hx hb dAc_multiply_0 rfl (lv_at hl 0 rfl) ?_
  refine cg5_upper hx hb hts i0 hown hK hP w2 dAc_multiply_1 ?_
  refine lv_ldc2 (v := 100000) hx hb hown w0 dAc_multiply_4 ?_
  refine lv_ldiv hx hb dAc_multiply_7 (by decide) ?_
  refine lv_lload_n hx hb dAc_multiply_8 rfl (lv_at hl 1 rfl) ?_
  refine lv_lmul hx hb dAc_multiply_9 ?_
  refine lv_lstore (lv' := [(4, .long (((c_upper z0) / 100000) * v)), (0, .ref (q 5)), (1, .long (v)), (3, .int (bb (b)))]) hx hb dAc_multiply_10 hl (by decide) rfl (fun ls hl => ?_)
  refine lv_aload_n hx hb dAc_multiply_12 rfl (lv_at hl 1 rfl) ?_
  refine cg5_upper hx hb hts i0 hown hK hP w2 dAc_multiply_13 ?_
  refine lv_ldc2 (v := 100000) hx hb hown w0 dAc_multiply_16 ?_
  refine lm_lrem hx hb dAc_multiply_19 (by decide) ?_
  refine lv_lload_n hx hb dAc_multiply_20 rfl (lv_at hl 2 rfl) ?_
  refine lv_lmul hx hb dAc_multiply_21 ?_
  refine lv_lstore (lv' := [(6, .long (((c_upper z0) % 100000) * v)), (4, .long (((c_upper z0) / 100000) * v)), (0, .ref (q 5)), (1, .long (v)), (3, .int (bb (b)))]) hx hb dAc_multiply_22 hl (by decide) rfl (fun ls hl => ?_)
  refine lv_lload hx hb dAc_multiply_24 (lv_at hl 1 rfl) ?_
  refine lv_ldc2 (v := 100000) hx hb hown w0 dAc_multiply_26 ?_
  refine lm_lrem hx hb dAc_multiply_29 (by decide) ?_
  refine lv_ldc2 (v := 100000) hx hb hown w0 dAc_multiply_30 ?_
  refine lv_lmul hx hb dAc_multiply_33 ?_
  refine lv_lload hx hb dAc_multiply_34 (lv_at hl 0 rfl) ?_
  refine lv_ladd hx hb dAc_multiply_36 ?_
  refine lv_aload_n hx hb dAc_multiply_37 rfl (lv_at hl 2 rfl) ?_
  refine cg5_lower hx hb hts i0 hown hK hP w3 dAc_multiply_38 ?_
  refine lv_ladd hx hb dAc_multiply_41 ?_
  refine lv_lstore (lv' := [(8, .long (((((((c_upper z0) / 100000) * v) % 100000) * 100000) + (((c_upper z0) % 100000) * v)) + (c_lower z0))), (6, .long (((c_upper z0) % 100000) * v)), (4, .long (((c_upper z0) / 100000) * v)), (0, .ref (q 5)), (1, .long (v)), (3, .int (bb (b)))]) hx hb dAc_multiply_42 hl (by decide) rfl (fun ls hl => ?_)
  exact hB44 s.heap [] ls z0 (((c_upper z0) / 100000) * v) (((((((c_upper z0) / 100000) * v) % 100000) * 100000) + (((c_upper z0) % 100000) * v)) + (c_lower z0)) hR hP hS (lv_sub hl [3, 5, 2, 0] rfl)
theorem nle_ne {v : Int64} (h : ¬ v ≤ 0) : ¬ v = 0 := fun e => h (by rw [e]; decide)
theorem dAc_divide_0 : decode ccAc_divide 0 = .ok (.lload_n 1, 1) := by decide +kernel
theorem dAc_divide_1 : decode ccAc_divide 1 = .ok (.lconst 0, 1) := by decide +kernel
theorem dAc_divide_2 : decode ccAc_divide 2 = .ok (.lcmp, 1) := by decide +kernel
theorem dAc_divide_3 : decode ccAc_divide 3 = .ok (.ifCond .le 12, 3) := by decide +kernel
theorem dAc_divide_6 : decode ccAc_divide 6 = .ok (.aload_n 0, 1) := by decide +kernel
theorem dAc_divide_7 : decode ccAc_divide 7 = .ok (.getfield 7, 3) := by decide +kernel
theorem dAc_divide_10 : decode ccAc_divide 10 = .ok (.lload_n 1, 1) := by decide +kernel
theorem dAc_divide_11 : decode ccAc_divide 11 = .ok (.lcmp, 1) := by decide +kernel
theorem dAc_divide_12 : decode ccAc_divide 12 = .ok (.ifCond .lt 10, 3) := by decide +kernel
theorem dAc_divide_15 : decode ccAc_divide 15 = .ok (.aload_n 0, 1) := by decide +kernel
theorem dAc_divide_16 : decode ccAc_divide 16 = .ok (.iconst 1, 1) := by decide +kernel
theorem dAc_divide_17 : decode ccAc_divide 17 = .ok (.putfield 20, 3) := by decide +kernel
theorem dAc_divide_20 : decode ccAc_divide 20 = .ok (.iconst 0, 1) := by decide +kernel
theorem dAc_divide_21 : decode ccAc_divide 21 = .ok (.ireturn, 1) := by decide +kernel
theorem dAc_divide_22 : decode ccAc_divide 22 = .ok (.aload_n 0, 1) := by decide +kernel
theorem dAc_divide_23 : decode ccAc_divide 23 = .ok (.getfield 7, 3) := by decide +kernel
theorem dAc_divide_26 : decode ccAc_divide 26 = .ok (.lstore 4, 2) := by decide +kernel
theorem dAc_divide_28 : decode ccAc_divide 28 = .ok (.aload_n 0, 1) := by decide +kernel
theorem dAc_divide_29 : decode ccAc_divide 29 = .ok (.getfield 13, 3) := by decide +kernel
theorem dAc_divide_32 : decode ccAc_divide 32 = .ok (.lstore 6, 2) := by decide +kernel
theorem dAc_divide_34 : decode ccAc_divide 34 = .ok (.lconst 0, 1) := by decide +kernel
theorem dAc_divide_35 : decode ccAc_divide 35 = .ok (.lstore 8, 2) := by decide +kernel
theorem dAc_divide_37 : decode ccAc_divide 37 = .ok (.iconst 0, 1) := by decide +kernel
theorem dAc_divide_38 : decode ccAc_divide 38 = .ok (.istore 10, 2) := by decide +kernel
theorem dAc_divide_40 : decode ccAc_divide 40 = .ok (.iload 10, 2) := by decide +kernel
theorem dAc_divide_42 : decode ccAc_divide 42 = .ok (.bipush 10, 2) := by decide +kernel
theorem dAc_divide_44 : decode ccAc_divide 44 = .ok (.if_icmp .ge 55, 3) := by decide +kernel
theorem dAc_divide_47 : decode ccAc_divide 47 = .ok (.lload 4, 2) := by decide +kernel
theorem dAc_divide_49 : decode ccAc_divide 49 = .ok (.ldc2_w 42, 3) := by decide +kernel
theorem dAc_divide_52 : decode ccAc_divide 52 = .ok (.lmul, 1) := by decide +kernel
theorem dAc_divide_53 : decode ccAc_divide 53 = .ok (.lload 6, 2) := by decide +kernel
theorem dAc_divide_55 : decode ccAc_divide 55 = .ok (.ldc2_w 44, 3) := by decide +kernel
theorem dAc_divide_58 : decode ccAc_divide 58 = .ok (.ldiv, 1) := by decide +kernel
theorem dAc_divide_59 : decode ccAc_divide 59 = .ok (.ladd, 1) := by decide +kernel
theorem dAc_divide_60 : decode ccAc_divide 60 = .ok (.lstore 4, 2) := by decide +kernel
theorem dAc_divide_62 : decode ccAc_divide 62 = .ok (.lload 6, 2) := by decide +kernel
theorem dAc_divide_64 : decode ccAc_divide 64 = .ok (.ldc2_w 44, 3) := by decide +kernel
theorem dAc_divide_67 : decode ccAc_divide 67 = .ok (.lrem, 1) := by decide +kernel
theorem dAc_divide_68 : decode ccAc_divide 68 = .ok (.ldc2_w 42, 3) := by decide +kernel
theorem dAc_divide_71 : decode ccAc_divide 71 = .ok (.lmul, 1) := by decide +kernel
theorem dAc_divide_72 : decode ccAc_divide 72 = .ok (.lstore 6, 2) := by decide +kernel
theorem dAc_divide_74 : decode ccAc_divide 74 = .ok (.lload 8, 2) := by decide +kernel
theorem dAc_divide_76 : decode ccAc_divide 76 = .ok (.ldc2_w 42, 3) := by decide +kernel
theorem dAc_divide_79 : decode ccAc_divide 79 = .ok (.lmul, 1) := by decide +kernel
theorem dAc_divide_80 : decode ccAc_divide 80 = .ok (.lload 4, 2) := by decide +kernel
theorem dAc_divide_82 : decode ccAc_divide 82 = .ok (.lload_n 1, 1) := by decide +kernel
theorem dAc_divide_83 : decode ccAc_divide 83 = .ok (.ldiv, 1) := by decide +kernel
theorem dAc_divide_84 : decode ccAc_divide 84 = .ok (.ladd, 1) := by decide +kernel
theorem dAc_divide_85 : decode ccAc_divide 85 = .ok (.lstore 8, 2) := by decide +kernel
theorem dAc_divide_87 : decode ccAc_divide 87 = .ok (.lload 4, 2) := by decide +kernel
theorem dAc_divide_89 : decode ccAc_divide 89 = .ok (.lload_n 1, 1) := by decide +kernel
theorem dAc_divide_90 : decode ccAc_divide 90 = .ok (.lrem, 1) := by decide +kernel
theorem dAc_divide_91 : decode ccAc_divide 91 = .ok (.lstore 4, 2) := by decide +kernel
theorem dAc_divide_93 : decode ccAc_divide 93 = .ok (.iinc 10 1, 3) := by decide +kernel
theorem dAc_divide_96 : decode ccAc_divide 96 = .ok (.goto (-56), 3) := by decide +kernel
theorem dAc_divide_99 : decode ccAc_divide 99 = .ok (.aload_n 0, 1) := by decide +kernel
theorem dAc_divide_100 : decode ccAc_divide 100 = .ok (.lload 4, 2) := by decide +kernel
theorem dAc_divide_102 : decode ccAc_divide 102 = .ok (.putfield 7, 3) := by decide +kernel
theorem dAc_divide_105 : decode ccAc_divide 105 = .ok (.aload_n 0, 1) := by decide +kernel
theorem dAc_divide_106 : decode ccAc_divide 106 = .ok (.lload 8, 2) := by decide +kernel
theorem dAc_divide_108 : decode ccAc_divide 108 = .ok (.putfield 13, 3) := by decide +kernel
theorem dAc_divide_111 : decode ccAc_divide 111 = .ok (.aload_n 0, 1) := by decide +kernel
theorem dAc_divide_112 : decode ccAc_divide 112 = .ok (.aload_n 0, 1) := by decide +kernel
theorem dAc_divide_113 : decode ccAc_divide 113 = .ok (.getfield 16, 3) := by decide +kernel
theorem dAc_divide_116 : decode ccAc_divide 116 = .ok (.iload_n 3, 1) := by decide +kernel
theorem dAc_divide_117 : decode ccAc_divide 117 = .ok (.if_icmp .eq 7, 3) := by decide +kernel
theorem dAc_divide_120 : decode ccAc_divide 120 = .ok (.iconst 1, 1) := by decide +kernel
theorem dAc_divide_121 : decode ccAc_divide 121 = .ok (.goto 4, 3) := by decide +kernel
theorem dAc_divide_124 : decode ccAc_divide 124 = .ok (.iconst 0, 1) := by decide +kernel
theorem dAc_divide_125 : decode ccAc_divide 125 = .ok (.putfield 16, 3) := by decide +kernel
theorem dAc_divide_128 : decode ccAc_divide 128 = .ok (.iconst 1, 1) := by decide +kernel
theorem dAc_divide_129 : decode ccAc_divide 129 = .ok (.ireturn, 1) := by decide +kernel
def fAc_divide_40  : Nat → SC → Int64 → Bool → Int64 → Int64 → Int64 → Nat → Bool × SC
  | 0, z, v, b, v4, v6, v8, v10 => (false, z)
  | fu + 1, z, v, b, v4, v6, v8, v10 => (if 10 ≤ v10 then (if (c_amin z) = b then (true, c_amin_s (c_lower_s (c_upper_s z v4) v8) false) else (true, c_amin_s (c_lower_s (c_upper_s z v4) v8) true)) else fAc_divide_40 fu z v b (((v4 * 10) + (v6 / 1000000000)) % v) ((v6 % 1000000000) * 10) ((v8 * 10) + (((v4 * 10) + (v6 / 1000000000)) / v)) (v10 + 1))
def fAc_divide (z0 : SC) (v : Int64) (b : Bool) : Bool × SC :=
  (if v ≤ 0 then (false, c_ovf_s z0 true) else (if (c_upper z0) < v then fAc_divide_40 11 z0 v b (c_upper z0) (c_lower z0) 0 0 else (false, c_ovf_s z0 true)))
set_option maxHeartbeats 4000000 in
set_option maxRecDepth 100000 in
theorem kAc_divide (l : Launch) (D : va_G) (q : Nat → Nat) (cI cJ cZ : ClassId) (hq : c_inj q) (z0 : SC) (v : Int64) (b : Bool)  : Met l yAc_divide wsAc_divide { frames := 0, cells := 0, slots := 0, locals := 0 } (va_Pc [.ref (q 5), .long (v), .int (bb (b))] (c_C D q cI cJ cZ z0)) (cQw (some (.int (bb ((fAc_divide z0 v b).1)))) (c_W D q cI cJ cZ (fAc_divide z0 v b).2) (c_qs q)) 0 0 (c_qs q) := by
  refine Met.ofW (cc := ccAc_divide) (maxL := 11) (ret := (some .boolean)) (by decide +kernel) rfl ?_
  intro p e s m args below meth c s₁ B hml hv
  obtain ⟨rfl, hP, hK⟩ := hv
  have hx := B.exec
  have hb := B.bytes
  have hr := B.returns
  have hts := atoms_spec (ws := wsAc_divide) B.pre
  have hown : s.vm.findClass RAc = some m.cls := findClass_of_methodNamed B.named
  have hlocks := B.notSynchronized
  have w0 := hts (.fieldLink RAc 7 "DrumMachine$Accumulator" "upper" "J") (List.mem_cons_of_mem _ wm1_97)
  have w1 := hts (.fieldLink RAc 13 "DrumMachine$Accumulator" "lower" "J") (List.mem_cons_of_mem _ wm1_98)
  have w2 := hts (.fieldLink RAc 16 "DrumMachine$Accumulator" "minus" "Z") (List.mem_cons_of_mem _ wm1_99)
  have w3 := hts (.constantLong RAc 42 (10)) (List.mem_cons_of_mem _ wm4_31)
  have w4 := hts (.constantLong RAc 44 (1000000000)) (List.mem_cons_of_mem _ wm4_32)
  have w5 := hts (.fieldLink RAc 20 "DrumMachine$Accumulator" "overflow" "Z") (List.mem_cons_of_mem _ wm1_100)
  have i0 : ∀ w ∈ u_ws RAc TAc 4, w ∈ wsAc_divide := fun w h => List.mem_cons_of_mem _ (inAAc w h)
  have hS : va_S (c_qs q) s.heap s.heap [] := va_S.rf
  have hl := lv_entry ([.ref (q 5), .long (v), .int (bb (b))]) (n := 11) (Nat.le_of_ble_eq_true rfl)
  rw [lg_entry_eq]
  generalize (lg_sl ([.ref (q 5), .long (v), .int (bb (b))]) ++ List.replicate (11 - (lg_sl ([.ref (q 5), .long (v), .int (bb (b))])).length) Slot.unset).toArray = ls at hl ⊢
  have hl : lv_has ls 11 [(0, .ref (q 5)), (1, .long (v)), (3, .int (bb (b)))] := hl
  have hB40 : ∀ (n40 : Nat) (H : Heap) (locs : List Loc) (ls : Array Slot) (z : SC) (v4 : Int64) (v6 : Int64) (v8 : Int64) (v10 : Nat), 10 - v10 < n40 → fAc_divide z0 v b = fAc_divide_40 n40 z v b v4 v6 v8 v10 → (v10 ≤ 10) → (¬ v = 0) → c_W D q cI cJ cZ z H → va_S (c_qs q) s.heap H locs → lv_has ls 11 [(0, .ref (q 5)), (1, .long (v)), (3, .int (bb (b))), (4, .long (v4)), (6, .long (v6)), (8, .long (v8)), (10, .int (nI (v10)))] → W p l e (headSpec wsAc_divide { frames := 0, cells := 0, slots := 0, locals := 0 }).room s m ([.ref (q 5), .long (v), .int (bb (b))] : List Value).toArray below meth c H locs 0 0 (MQ below (cQw (some (.int (bb ((fAc_divide z0 v b).1)))) (c_W D q cI cJ cZ (fAc_divide z0 v b).2) (c_qs q)) ([.ref (q 5), .long (v), .int (bb (b))] : List Value).toArray s 0 0 (c_qs q)) (F0 m 40 ls []) := by
    intro n40
    induction n40 with
    | zero => intro H locs ls z v4 v6 v8 v10 hn40; exact absurd hn40 (Nat.not_lt_zero _)
    | succ n40 ih40 =>
      intro H locs ls z v4 v6 v8 v10 hn40 hR h10 hw hP hS hl
      rw [fAc_divide_40.eq_2] at hR
      refine lv_iload hx hb dAc_divide_40 (lv_at hl 6 rfl) ?_
      refine lv_bipush (v := 10) hx hb dAc_divide_42 (by decide) ?_
      refine wn_ge (x := v10) (y := 10) hx hb (by omega) (by omega) dAc_divide_44 rfl (fun h44 => ?_) (fun h44 => ?_)
      · have hR := hR.trans (if_pos h44)
        refine lv_aload_n hx hb dAc_divide_99 rfl (lv_at hl 0 rfl) ?_
        refine lv_lload hx hb dAc_divide_100 (lv_at hl 3 rfl) ?_
        refine cp5_upper v4 hq hS hx hb hts i0 hown hK hP w0 dAc_divide_102 (fun H locs hP hS => ?_)
        refine lv_aload_n hx hb dAc_divide_105 rfl (lv_at hl 0 rfl) ?_
        refine lv_lload hx hb dAc_divide_106 (lv_at hl 5 rfl) ?_
        refine cp5_lower v8 hq hS hx hb hts i0 hown hK hP w1 dAc_divide_108 (fun H locs hP hS => ?_)
        refine lv_aload_n hx hb dAc_divide_111 rfl (lv_at hl 0 rfl) ?_
        refine lv_aload_n hx hb dAc_divide_112 rfl (lv_at hl 0 rfl) ?_
        refine cg5_minus_e (v := c_amin z) ((c_amin_lower _ _).trans ((c_amin_upper _ _).trans (rfl))) hx hb hts i0 hown hK hP w2 dAc_divide_113 ?_
        refine lv_iload_n hx hb dAc_divide_116 rfl (lv_at hl 2 rfl) ?_
        refine wz_cmpeq hx hb dAc_divide_117 rfl (fun h117 => ?_) (fun h117 => ?_)
        · have hR := hR.trans (if_pos h117)
          refine lv_iconst (v := 0) hx hb dAc_divide_124 (by decide) ?_
          refine cp5_minus false hq hS hx hb hts i0 hown hK hP w2 dAc_divide_125 (fun H locs hP hS => ?_)
          refine lv_iconst (v := 1) hx hb dAc_divide_128 (by decide) ?_
          exact W.zret hx hb hr rfl (fun t ht _ => ⟨by rw [hR]; first | done | rfl, by rw [hR, ht]; exact hP, hS.F ht⟩) hS.2.2 dAc_divide_129
        · have hR := hR.trans (if_neg h117)
          refine lv_iconst (v := 1) hx hb dAc_divide_120 (by decide) ?_
          refine lv_goto hx hb dAc_divide_121 rfl ?_
          refine cp5_minus (true) hq hS hx hb hts i0 hown hK hP w2 dAc_divide_125 (fun H locs hP hS => ?_)
          refine lv_iconst (v := 1) hx hb dAc_divide_128 (by decide) ?_
          exact W.zret hx hb hr rfl (fun t ht _ => ⟨by rw [hR]; first | done | rfl, by rw [hR, ht]; exact hP, hS.F ht⟩) hS.2.2 dAc_divide_129
      · have hR := hR.trans (if_neg h44)
        refine lv_lload hx hb dAc_divide_47 (lv_at hl 3 rfl) ?_
        refine lv_ldc2 (v := 10) hx hb hown w3 dAc_divide_49 ?_
        refine lv_lmul hx hb dAc_divide_52 ?_
        refine lv_lload hx hb dAc_divide_53 (lv_at hl 4 rfl) ?_
        refine lv_ldc2 (v := 1000000000) hx hb hown w4 dAc_divide_55 ?_
        refine lv_ldiv hx hb dAc_divide_58 (by decide) ?_
        refine lv_ladd hx hb dAc_divide_59 ?_
        refine lv_lstore (lv' := [(4, .long ((v4 * 10) + (v6 / 1000000000))), (0, .ref (q 5)), (1, .long (v)), (3, .int (bb (b))), (6, .long (v6)), (8, .long (v8)), (10, .int (nI (v10)))]) hx hb dAc_divide_60 hl (by decide) rfl (fun ls hl => ?_)
        refine lv_lload hx hb dAc_divide_62 (lv_at hl 4 rfl) ?_
        refine lv_ldc2 (v := 1000000000) hx hb hown w4 dAc_divide_64 ?_
        refine lm_lrem hx hb dAc_divide_67 (by decide) ?_
        refine lv_ldc2 (v := 10) hx hb hown w3 dAc_divide_68 ?_
        refine lv_lmul hx hb dAc_divide_71 ?_
        refine lv_lstore (lv' := [(6, .long ((v6 % 1000000000) * 10)), (4, .long ((v4 * 10) + (v6 / 1000000000))), (0, .ref (q 5)), (1, .long (v)), (3, .int (bb (b))), (8, .long (v8)), (10, .int (nI (v10)))]) hx hb dAc_divide_72 hl (by decide) rfl (fun ls hl => ?_)
        refine lv_lload hx hb dAc_divide_74 (lv_at hl 5 rfl) ?_
        refine lv_ldc2 (v := 10) hx hb hown w3 dAc_divide_76 ?_
        refine lv_lmul hx hb dAc_divide_79 ?_
        refine lv_lload hx hb dAc_divide_80 (lv_at hl 1 rfl) ?_
        refine lv_lload_n hx hb dAc_divide_82 rfl (lv_at hl 3 rfl) ?_
        refine lv_ldiv hx hb dAc_divide_83 hw ?_
        refine lv_ladd hx hb dAc_divide_84 ?_
        refine lv_lstore (lv' := [(8, .long ((v8 * 10) + (((v4 * 10) + (v6 / 1000000000)) / v))), (6, .long ((v6 % 1000000000) * 10)), (4, .long ((v4 * 10) + (v6 / 1000000000))), (0, .ref (q 5)), (1, .long (v)), (3, .int (bb (b))), (10, .int (nI (v10)))]) hx hb dAc_divide_85 hl (by decide) rfl (fun ls hl => ?_)
        refine lv_lload hx hb dAc_divide_87 (lv_at hl 2 rfl) ?_
        refine lv_lload_n hx hb dAc_divide_89 rfl (lv_at hl 4 rfl) ?_
        refine lm_lrem hx hb dAc_divide_90 hw ?_
        refine lv_lstore (lv' := [(4, .long (((v4 * 10) + (v6 / 1000000000)) % v)), (8, .long ((v8 * 10) + (((v4 * 10) + (v6 / 1000000000)) / v))), (6, .long ((v6 % 1000000000) * 10)), (0, .ref (q 5)), (1, .long (v)), (3, .int (bb (b))), (10, .int (nI (v10)))]) hx hb dAc_divide_91 hl (by decide) rfl (fun ls hl => ?_)
        refine lv_iinc (k := 6) (lv' := [(10, .int (nI (v10 + 1))), (4, .long (((v4 * 10) + (v6 / 1000000000)) % v)), (8, .long ((v8 * 10) + (((v4 * 10) + (v6 / 1000000000)) / v))), (6, .long ((v6 % 1000000000) * 10)), (0, .ref (q 5)), (1, .long (v)), (3, .int (bb (b)))]) hx hb dAc_divide_93 hl rfl (nI_1 _) (by decide) rfl (fun ls hl => ?_)
        refine lv_goto hx hb dAc_divide_96 rfl ?_
        exact ih40 H locs ls z (((v4 * 10) + (v6 / 1000000000)) % v) ((v6 % 1000000000) * 10) ((v8 * 10) + (((v4 * 10) + (v6 / 1000000000)) / v)) (v10 + 1) (by omega) hR (by first | assumption | omega) (by first | assumption | omega) hP hS (lv_sub hl [4, 5, 6, 1, 3, 2, 0] rfl)
  have hR := fAc_divide.eq_1 z0 v b
  refine lv_lload_n hx hb dAc_divide_0 rfl (lv_at hl 1 rfl) ?_
  refine lv_lconst (v := 0) hx hb dAc_divide_1 (by decide) ?_
  refine lc_le hx hb dAc_divide_2 dAc_divide_3 rfl (fun h2 => ?_) (fun h2 => ?_)
  · have hR := hR.trans (if_pos h2)
    refine lv_aload_n hx hb dAc_divide_15 rfl (lv_at hl 0 rfl) ?_
    refine lv_iconst (v := 1) hx hb dAc_divide_16 (by decide) ?_
    refine cp5_overflow (true) hq hS hx hb hts i0 hown hK hP w5 dAc_divide_17 (fun H locs hP hS => ?_)
    refine lv_iconst (v := 0) hx hb dAc_divide_20 (by decide) ?_
    exact W.zret hx hb hr rfl (fun t ht _ => ⟨by rw [hR]; first | done | rfl, by rw [hR, ht]; exact hP, hS.F ht⟩) hS.2.2 dAc_divide_21
  · have hR := hR.trans (if_neg h2)
    refine lv_aload_n hx hb dAc_divide_6 rfl (lv_at hl 0 rfl) ?_
    refine cg5_upper hx hb hts i0 hown hK hP w0 dAc_divide_7 ?_
    refine lv_lload_n hx hb dAc_divide_10 rfl (lv_at hl 1 rfl) ?_
    refine lc_lt hx hb dAc_divide_11 dAc_divide_12 rfl (fun h11 => ?_) (fun h11 => ?_)
    · have hR := hR.trans (if_pos h11)
      refine lv_aload_n hx hb dAc_divide_22 rfl (lv_at hl 0 rfl) ?_
      refine cg5_upper hx hb hts i0 hown hK hP w0 dAc_divide_23 ?_
      refine lv_lstore (lv' := [(4, .long (c_upper z0)), (0, .ref (q 5)), (1, .long (v)), (3, .int (bb (b)))]) hx hb dAc_divide_26 hl (by decide) rfl (fun ls hl => ?_)
      refine lv_aload_n hx hb dAc_divide_28 rfl (lv_at hl 1 rfl) ?_
      refine cg5_lower hx hb hts i0 hown hK hP w1 dAc_divide_29 ?_
      refine lv_lstore (lv' := [(6, .long (c_lower z0)), (4, .long (c_upper z0)), (0, .ref (q 5)), (1, .long (v)), (3, .int (bb (b)))]) hx hb dAc_divide_32 hl (by decide) rfl (fun ls hl => ?_)
      refine lv_lconst (v := 0) hx hb dAc_divide_34 (by decide) ?_
      refine lv_lstore (lv' := [(8, .long (0)), (6, .long (c_lower z0)), (4, .long (c_upper z0)), (0, .ref (q 5)), (1, .long (v)), (3, .int (bb (b)))]) hx hb dAc_divide_35 hl (by decide) rfl (fun ls hl => ?_)
      refine lv_iconst (v := 0) hx hb dAc_divide_37 (by decide) ?_
      refine lv_istore (lv' := [(10, .int (nI (0))), (8, .long (0)), (6, .long (c_lower z0)), (4, .long (c_upper z0)), (0, .ref (q 5)), (1, .long (v)), (3, .int (bb (b)))]) hx hb dAc_divide_38 hl (by decide) rfl (fun ls hl => ?_)
      exact hB40 11 s.heap [] ls z0 (c_upper z0) (c_lower z0) 0 0 (by omega) hR (by first | assumption | omega) (nle_ne h2) hP hS (lv_sub hl [4, 5, 6, 3, 2, 1, 0] rfl)
    · have hR := hR.trans (if_neg h11)
      refine lv_aload_n hx hb dAc_divide_15 rfl (lv_at hl 0 rfl) ?_
      refine lv_iconst (v := 1) hx hb dAc_divide_16 (by decide) ?_
      refine cp5_overflow (true) hq hS hx hb hts i0 hown hK hP w5 dAc_divide_17 (fun H locs hP hS => ?_)
      refine lv_iconst (v := 0) hx hb dAc_divide_20 (by decide) ?_
      exact W.zret hx hb hr rfl (fun t ht _ => ⟨by rw [hR]; first | done | rfl, by rw [hR, ht]; exact hP, hS.F ht⟩) hS.2.2 dAc_divide_21
theorem dAc_shiftRight_0 : decode ccAc_shiftRight 0 = .ok (.iload_n 1, 1) := by decide +kernel
theorem dAc_shiftRight_1 : decode ccAc_shiftRight 1 = .ok (.invokestatic 46, 3) := by decide +kernel
theorem dAc_shiftRight_4 : decode ccAc_shiftRight 4 = .ok (.lstore_n 2, 1) := by decide +kernel
theorem dAc_shiftRight_5 : decode ccAc_shiftRight 5 = .ok (.aload_n 0, 1) := by decide +kernel
theorem dAc_shiftRight_6 : decode ccAc_shiftRight 6 = .ok (.getfield 7, 3) := by decide +kernel
theorem dAc_shiftRight_9 : decode ccAc_shiftRight 9 = .ok (.lload_n 2, 1) := by decide +kernel
theorem dAc_shiftRight_10 : decode ccAc_shiftRight 10 = .ok (.lrem, 1) := by decide +kernel
theorem dAc_shiftRight_11 : decode ccAc_shiftRight 11 = .ok (.lstore 4, 2) := by decide +kernel
theorem dAc_shiftRight_13 : decode ccAc_shiftRight 13 = .ok (.aload_n 0, 1) := by decide +kernel
theorem dAc_shiftRight_14 : decode ccAc_shiftRight 14 = .ok (.dup, 1) := by decide +kernel
theorem dAc_shiftRight_15 : decode ccAc_shiftRight 15 = .ok (.getfield 7, 3) := by decide +kernel
theorem dAc_shiftRight_18 : decode ccAc_shiftRight 18 = .ok (.lload_n 2, 1) := by decide +kernel
theorem dAc_shiftRight_19 : decode ccAc_shiftRight 19 = .ok (.ldiv, 1) := by decide +kernel
theorem dAc_shiftRight_20 : decode ccAc_shiftRight 20 = .ok (.putfield 7, 3) := by decide +kernel
theorem dAc_shiftRight_23 : decode ccAc_shiftRight 23 = .ok (.aload_n 0, 1) := by decide +kernel
theorem dAc_shiftRight_24 : decode ccAc_shiftRight 24 = .ok (.aload_n 0, 1) := by decide +kernel
theorem dAc_shiftRight_25 : decode ccAc_shiftRight 25 = .ok (.getfield 13, 3) := by decide +kernel
theorem dAc_shiftRight_28 : decode ccAc_shiftRight 28 = .ok (.lload_n 2, 1) := by decide +kernel
theorem dAc_shiftRight_29 : decode ccAc_shiftRight 29 = .ok (.ldiv, 1) := by decide +kernel
theorem dAc_shiftRight_30 : decode ccAc_shiftRight 30 = .ok (.lload 4, 2) := by decide +kernel
theorem dAc_shiftRight_32 : decode ccAc_shiftRight 32 = .ok (.bipush 10, 2) := by decide +kernel
theorem dAc_shiftRight_34 : decode ccAc_shiftRight 34 = .ok (.iload_n 1, 1) := by decide +kernel
theorem dAc_shiftRight_35 : decode ccAc_shiftRight 35 = .ok (.isub, 1) := by decide +kernel
theorem dAc_shiftRight_36 : decode ccAc_shiftRight 36 = .ok (.invokestatic 46, 3) := by decide +kernel
theorem dAc_shiftRight_39 : decode ccAc_shiftRight 39 = .ok (.lmul, 1) := by decide +kernel
theorem dAc_shiftRight_40 : decode ccAc_shiftRight 40 = .ok (.ladd, 1) := by decide +kernel
theorem dAc_shiftRight_41 : decode ccAc_shiftRight 41 = .ok (.putfield 13, 3) := by decide +kernel
theorem dAc_shiftRight_44 : decode ccAc_shiftRight 44 = .ok (.return_, 1) := by decide +kernel
def fAc_shiftRight_5  (z : SC) (x : Int32) (v2 : Int64) : SC :=
  c_lower_s (c_upper_s z ((c_upper z) / v2)) (((c_lower z) / v2) + (((c_upper z) % v2) * (fDg_powerOfTen (10 - x))))
def fAc_shiftRight (z0 : SC) (x : Int32) : SC :=
  fAc_shiftRight_5 z0 x (fDg_powerOfTen x)
set_option maxHeartbeats 4000000 in
set_option maxRecDepth 100000 in
theorem kAc_shiftRight (l : Launch) (D : va_G) (q : Nat → Nat) (cI cJ cZ : ClassId) (hq : c_inj q) (z0 : SC) (x : Int32)  : Met l yAc_shiftRight wsAc_shiftRight { frames := 1, cells := 0, slots := 0, locals := 23 } (va_Pc [.ref (q 5), .int (x)] (c_C D q cI cJ cZ z0)) (cQw none (c_W D q cI cJ cZ (fAc_shiftRight z0 x)) (c_qs q)) 0 0 (c_qs q) := by
  refine Met.ofW (cc := ccAc_shiftRight) (maxL := 6) (ret := none) (by decide +kernel) rfl ?_
  intro p e s m args below meth c s₁ B hml hv
  obtain ⟨rfl, hP, hK⟩ := hv
  have hx := B.exec
  have hb := B.bytes
  have hr := B.returns
  have hts := atoms_spec (ws := wsAc_shiftRight) B.pre
  have hown : s.vm.findClass RAc = some m.cls := findClass_of_methodNamed B.named
  have hlocks := B.notSynchronized
  have w0 := hts (.fieldLink RAc 7 "DrumMachine$Accumulator" "upper" "J") (List.mem_cons_of_mem _ wm1_97)
  have w1 := hts (.fieldLink RAc 13 "DrumMachine$Accumulator" "lower" "J") (List.mem_cons_of_mem _ wm1_98)
  have i0 : ∀ w ∈ u_ws RAc TAc 4, w ∈ wsAc_shiftRight := fun w h => List.mem_cons_of_mem _ (inAAc w h)
  have hS : va_S (c_qs q) s.heap s.heap [] := va_S.rf
  have hl := lv_entry ([.ref (q 5), .int (x)]) (n := 6) (Nat.le_of_ble_eq_true rfl)
  rw [lg_entry_eq]
  generalize (lg_sl ([.ref (q 5), .int (x)]) ++ List.replicate (6 - (lg_sl ([.ref (q 5), .int (x)])).length) Slot.unset).toArray = ls at hl ⊢
  have hl : lv_has ls 6 [(0, .ref (q 5)), (1, .int (x))] := hl
  have hB5 : ∀ (H : Heap) (locs : List Loc) (ls : Array Slot) (z : SC) (v2 : Int64), fAc_shiftRight z0 x = fAc_shiftRight_5 z x v2 → (¬ v2 = 0) → c_W D q cI cJ cZ z H → va_S (c_qs q) s.heap H locs → lv_has ls 6 [(0, .ref (q 5)), (1, .int (x)), (2, .long (v2))] → W p l e (headSpec wsAc_shiftRight { frames := 1, cells := 0, slots := 0, locals := 23 }).room s m ([.ref (q 5), .int (x)] : List Value).toArray below meth c H locs 0 0 (MQ below (cQw none (c_W D q cI cJ cZ (fAc_shiftRight z0 x)) (c_qs q)) ([.ref (q 5), .int (x)] : List Value).toArray s 0 0 (c_qs q)) (F0 m 5 ls []) := by
    intro H locs ls z v2 hR hv hP hS hl
    rw [fAc_shiftRight_5.eq_1] at hR
    refine lv_aload_n hx hb dAc_shiftRight_5 rfl (lv_at hl 0 rfl) ?_
    refine cg5_upper hx hb hts i0 hown hK hP w0 dAc_shiftRight_6 ?_
    refine lv_lload_n hx hb dAc_shiftRight_9 rfl (lv_at hl 2 rfl) ?_
    refine lm_lrem hx hb dAc_shiftRight_10 hv ?_
    refine lv_lstore (lv' := [(4, .long ((c_upper z) % v2)), (0, .ref (q 5)), (1, .int (x)), (2, .long (v2))]) hx hb dAc_shiftRight_11 hl (by decide) rfl (fun ls hl => ?_)
    refine lv_aload_n hx hb dAc_shiftRight_13 rfl (lv_at hl 1 rfl) ?_
    refine lv_dup hx hb dAc_shiftRight_14 rfl ?_
    refine cg5_upper hx hb hts i0 hown hK hP w0 dAc_shiftRight_15 ?_
    refine lv_lload_n hx hb dAc_shiftRight_18 rfl (lv_at hl 3 rfl) ?_
    refine lv_ldiv hx hb dAc_shiftRight_19 hv ?_
    refine cp5_upper ((c_upper z) / v2) hq hS hx hb hts i0 hown hK hP w0 dAc_shiftRight_20 (fun H locs hP hS => ?_)
    refine lv_aload_n hx hb dAc_shiftRight_23 rfl (lv_at hl 1 rfl) ?_
    refine lv_aload_n hx hb dAc_shiftRight_24 rfl (lv_at hl 1 rfl) ?_
    refine cg5_lower_e (v := c_lower z) ((c_lower_upper _ _).trans (rfl)) hx hb hts i0 hown hK hP w1 dAc_shiftRight_25 ?_
    refine lv_lload_n hx hb dAc_shiftRight_28 rfl (lv_at hl 3 rfl) ?_
    refine lv_ldiv hx hb dAc_shiftRight_29 hv ?_
    refine lv_lload hx hb dAc_shiftRight_30 (lv_at hl 0 rfl) ?_
    refine lv_bipush (v := 10) hx hb dAc_shiftRight_32 (by decide) ?_
    refine lv_iload_n hx hb dAc_shiftRight_34 rfl (lv_at hl 2 rfl) ?_
    refine lv_isub hx hb dAc_shiftRight_35 ?_
    refine cl_rd (W.runS (As := [.int ((10 - x))]) (rest := [.long ((c_upper z) % v2), .long ((c_lower z) / v2), .ref (q 5)]) ⟨hx, hb, hml, hown, hts⟩ (kDg_powerOfTen l (10 - x)) (va_cwS 1 hts (gS wm3_170 wm3_171 wm1_14 wm3_172) rfl rfl rfl (by decide +kernel) ⟨Nat.le_of_ble_eq_true rfl, Nat.le_of_ble_eq_true rfl⟩) (preT) rfl rfl hl.1 rfl (lv_room (Nat.le_of_ble_eq_true rfl)) dAc_shiftRight_36 ⟨Nat.le_refl _, Nat.le_refl _⟩) ?_
    refine lv_lmul hx hb dAc_shiftRight_39 ?_
    refine lv_ladd hx hb dAc_shiftRight_40 ?_
    refine cp5_lower (((c_lower z) / v2) + (((c_upper z) % v2) * (fDg_powerOfTen (10 - x)))) hq hS hx hb hts i0 hown hK hP w1 dAc_shiftRight_41 (fun H locs hP hS => ?_)
    exact W.vret hx hb hr (fun t ht _ => ⟨rfl, by rw [hR, ht]; exact hP, hS.F ht⟩) hS.2.2 dAc_shiftRight_44
  have hR := fAc_shiftRight.eq_1 z0 x
  refine lv_iload_n hx hb dAc_shiftRight_0 rfl (lv_at hl 1 rfl) ?_
  refine cl_rd (W.runS (As := [.int (x)]) (rest := []) ⟨hx, hb, hml, hown, hts⟩ (kDg_powerOfTen l x) (va_cwS 1 hts (gS wm3_170 wm3_171 wm1_14 wm3_172) rfl rfl rfl (by decide +kernel) ⟨Nat.le_of_ble_eq_true rfl, Nat.le_of_ble_eq_true rfl⟩) (preT) rfl rfl hl.1 rfl (lv_room (Nat.le_of_ble_eq_true rfl)) dAc_shiftRight_1 ⟨Nat.le_refl _, Nat.le_refl _⟩) ?_
  refine lv_lstore_n (lv' := [(2, .long (fDg_powerOfTen x)), (0, .ref (q 5)), (1, .int (x))]) hx hb dAc_shiftRight_4 rfl hl (by decide) rfl (fun ls hl => ?_)
  exact hB5 s.heap [] ls z0 (fDg_powerOfTen x) hR (f_pow_ne _) hP hS (lv_sub hl [1, 2, 0] rfl)
theorem dAc_shiftLeft_0 : decode ccAc_shiftLeft 0 = .ok (.iload_n 1, 1) := by decide +kernel
theorem dAc_shiftLeft_1 : decode ccAc_shiftLeft 1 = .ok (.invokestatic 46, 3) := by decide +kernel
theorem dAc_shiftLeft_4 : decode ccAc_shiftLeft 4 = .ok (.lstore_n 2, 1) := by decide +kernel
theorem dAc_shiftLeft_5 : decode ccAc_shiftLeft 5 = .ok (.bipush 10, 2) := by decide +kernel
theorem dAc_shiftLeft_7 : decode ccAc_shiftLeft 7 = .ok (.iload_n 1, 1) := by decide +kernel
theorem dAc_shiftLeft_8 : decode ccAc_shiftLeft 8 = .ok (.isub, 1) := by decide +kernel
theorem dAc_shiftLeft_9 : decode ccAc_shiftLeft 9 = .ok (.invokestatic 46, 3) := by decide +kernel
theorem dAc_shiftLeft_12 : decode ccAc_shiftLeft 12 = .ok (.lstore 4, 2) := by decide +kernel
theorem dAc_shiftLeft_14 : decode ccAc_shiftLeft 14 = .ok (.aload_n 0, 1) := by decide +kernel
theorem dAc_shiftLeft_15 : decode ccAc_shiftLeft 15 = .ok (.aload_n 0, 1) := by decide +kernel
theorem dAc_shiftLeft_16 : decode ccAc_shiftLeft 16 = .ok (.getfield 7, 3) := by decide +kernel
theorem dAc_shiftLeft_19 : decode ccAc_shiftLeft 19 = .ok (.lload 4, 2) := by decide +kernel
theorem dAc_shiftLeft_21 : decode ccAc_shiftLeft 21 = .ok (.lrem, 1) := by decide +kernel
theorem dAc_shiftLeft_22 : decode ccAc_shiftLeft 22 = .ok (.lload_n 2, 1) := by decide +kernel
theorem dAc_shiftLeft_23 : decode ccAc_shiftLeft 23 = .ok (.lmul, 1) := by decide +kernel
theorem dAc_shiftLeft_24 : decode ccAc_shiftLeft 24 = .ok (.aload_n 0, 1) := by decide +kernel
theorem dAc_shiftLeft_25 : decode ccAc_shiftLeft 25 = .ok (.getfield 13, 3) := by decide +kernel
theorem dAc_shiftLeft_28 : decode ccAc_shiftLeft 28 = .ok (.lload 4, 2) := by decide +kernel
theorem dAc_shiftLeft_30 : decode ccAc_shiftLeft 30 = .ok (.ldiv, 1) := by decide +kernel
theorem dAc_shiftLeft_31 : decode ccAc_shiftLeft 31 = .ok (.ladd, 1) := by decide +kernel
theorem dAc_shiftLeft_32 : decode ccAc_shiftLeft 32 = .ok (.putfield 7, 3) := by decide +kernel
theorem dAc_shiftLeft_35 : decode ccAc_shiftLeft 35 = .ok (.aload_n 0, 1) := by decide +kernel
theorem dAc_shiftLeft_36 : decode ccAc_shiftLeft 36 = .ok (.aload_n 0, 1) := by decide +kernel
theorem dAc_shiftLeft_37 : decode ccAc_shiftLeft 37 = .ok (.getfield 13, 3) := by decide +kernel
theorem dAc_shiftLeft_40 : decode ccAc_shiftLeft 40 = .ok (.lload 4, 2) := by decide +kernel
theorem dAc_shiftLeft_42 : decode ccAc_shiftLeft 42 = .ok (.lrem, 1) := by decide +kernel
theorem dAc_shiftLeft_43 : decode ccAc_shiftLeft 43 = .ok (.lload_n 2, 1) := by decide +kernel
theorem dAc_shiftLeft_44 : decode ccAc_shiftLeft 44 = .ok (.lmul, 1) := by decide +kernel
theorem dAc_shiftLeft_45 : decode ccAc_shiftLeft 45 = .ok (.putfield 13, 3) := by decide +kernel
theorem dAc_shiftLeft_48 : decode ccAc_shiftLeft 48 = .ok (.return_, 1) := by decide +kernel
def fAc_shiftLeft_14  (z : SC) (v2 : Int64) (v4 : Int64) : SC :=
  c_lower_s (c_upper_s z ((((c_upper z) % v4) * v2) + ((c_lower z) / v4))) (((c_lower z) % v4) * v2)
def fAc_shiftLeft (z0 : SC) (x : Int32) : SC :=
  fAc_shiftLeft_14 z0 (fDg_powerOfTen x) (fDg_powerOfTen (10 - x))
set_option maxHeartbeats 4000000 in
set_option maxRecDepth 100000 in
theorem kAc_shiftLeft (l : Launch) (D : va_G) (q : Nat → Nat) (cI cJ cZ : ClassId) (hq : c_inj q) (z0 : SC) (x : Int32)  : Met l yAc_shiftLeft wsAc_shiftLeft { frames := 1, cells := 0, slots := 0, locals := 23 } (va_Pc [.ref (q 5), .int (x)] (c_C D q cI cJ cZ z0)) (cQw none (c_W D q cI cJ cZ (fAc_shiftLeft z0 x)) (c_qs q)) 0 0 (c_qs q) := by
  refine Met.ofW (cc := ccAc_shiftLeft) (maxL := 6) (ret := none) (by decide +kernel) rfl ?_
  intro p e s m args below meth c s₁ B hml hv
  obtain ⟨rfl, hP, hK⟩ := hv
  have hx := B.exec
  have hb := B.bytes
  have hr := B.returns
  have hts := atoms_spec (ws := wsAc_shiftLeft) B.pre
  have hown : s.vm.findClass RAc = some m.cls := findClass_of_methodNamed B.named
  have hlocks := B.notSynchronized
  have w0 := hts (.fieldLink RAc 7 "DrumMachine$Accumulator" "upper" "J") (List.mem_cons_of_mem _ wm1_97)
  have w1 := hts (.fieldLink RAc 13 "DrumMachine$Accumulator" "lower" "J") (List.mem_cons_of_mem _ wm1_98)
  have i0 : ∀ w ∈ u_ws RAc TAc 4, w ∈ wsAc_shiftLeft := fun w h => List.mem_cons_of_mem _ (inAAc w h)
  have hS : va_S (c_qs q) s.heap s.heap [] := va_S.rf
  have hl := lv_entry ([.ref (q 5), .int (x)]) (n := 6) (Nat.le_of_ble_eq_true rfl)
  rw [lg_entry_eq]
  generalize (lg_sl ([.ref (q 5), .int (x)]) ++ List.replicate (6 - (lg_sl ([.ref (q 5), .int (x)])).length) Slot.unset).toArray = ls at hl ⊢
  have hl : lv_has ls 6 [(0, .ref (q 5)), (1, .int (x))] := hl
  have hB14 : ∀ (H : Heap) (locs : List Loc) (ls : Array Slot) (z : SC) (v2 : Int64) (v4 : Int64), fAc_shiftLeft z0 x = fAc_shiftLeft_14 z v2 v4 → (¬ v4 = 0) → c_W D q cI cJ cZ z H → va_S (c_qs q) s.heap H locs → lv_has ls 6 [(0, .ref (q 5)), (2, .long (v2)), (4, .long (v4))] → W p l e (headSpec wsAc_shiftLeft { frames := 1, cells := 0, slots := 0, locals := 23 }).room s m ([.ref (q 5), .int (x)] : List Value).toArray below meth c H locs 0 0 (MQ below (cQw none (c_W D q cI cJ cZ (fAc_shiftLeft z0 x)) (c_qs q)) ([.ref (q 5), .int (x)] : List Value).toArray s 0 0 (c_qs q)) (F0 m 14 ls []) := by
    intro H locs ls z v2 v4 hR hv hP hS hl
    rw [fAc_shiftLeft_14.eq_1] at hR
    refine lv_aload_n hx hb dAc_shiftLeft_14 rfl (lv_at hl 0 rfl) ?_
    refine lv_aload_n hx hb dAc_shiftLeft_15 rfl (lv_at hl 0 rfl) ?_
    refine cg5_upper hx hb hts i0 hown hK hP w0 dAc_shiftLeft_16 ?_
    refine lv_lload hx hb dAc_shiftLeft_19 (lv_at hl 2 rfl) ?_
    refine lm_lrem hx hb dAc_shiftLeft_21 hv ?_
    refine lv_lload_n hx hb dAc_shiftLeft_22 rfl (lv_at hl 1 rfl) ?_
    refine lv_lmul hx hb dAc_shiftLeft_23 ?_
    refine lv_aload_n hx hb dAc_shiftLeft_24 rfl (lv_at hl 0 rfl) ?_
    refine cg5_lower hx hb hts i0 hown hK hP w1 dAc_shiftLeft_25 ?_
    refine lv_lload hx hb dAc_shiftLeft_28 (lv_at hl 2 rfl) ?_
    refine lv_ldiv hx hb dAc_shiftLeft_30 hv ?_
    refine lv_ladd hx hb dAc_shiftLeft_31 ?_
    refine cp5_upper ((((c_upper z) % v4) * v2) + ((c_lower z) / v4)) hq hS hx hb hts i0 hown hK hP w0 dAc_shiftLeft_32 (fun H locs hP hS => ?_)
    refine lv_aload_n hx hb dAc_shiftLeft_35 rfl (lv_at hl 0 rfl) ?_
    refine lv_aload_n hx hb dAc_shiftLeft_36 rfl (lv_at hl 0 rfl) ?_
    refine cg5_lower_e (v := c_lower z) ((c_lower_upper _ _).trans (rfl)) hx hb hts i0 hown hK hP w1 dAc_shiftLeft_37 ?_
    refine lv_lload hx hb dAc_shiftLeft_40 (lv_at hl 2 rfl) ?_
    refine lm_lrem hx hb dAc_shiftLeft_42 hv ?_
    refine lv_lload_n hx hb dAc_shiftLeft_43 rfl (lv_at hl 1 rfl) ?_
    refine lv_lmul hx hb dAc_shiftLeft_44 ?_
    refine cp5_lower (((c_lower z) % v4) * v2) hq hS hx hb hts i0 hown hK hP w1 dAc_shiftLeft_45 (fun H locs hP hS => ?_)
    exact W.vret hx hb hr (fun t ht _ => ⟨rfl, by rw [hR, ht]; exact hP, hS.F ht⟩) hS.2.2 dAc_shiftLeft_48
  have hR := fAc_shiftLeft.eq_1 z0 x
  refine lv_iload_n hx hb dAc_shiftLeft_0 rfl (lv_at hl 1 rfl) ?_
  refine cl_rd (W.runS (As := [.int (x)]) (rest := []) ⟨hx, hb, hml, hown, hts⟩ (kDg_powerOfTen l x) (va_cwS 1 hts (gS wm3_170 wm3_171 wm1_14 wm3_172) rfl rfl rfl (by decide +kernel) ⟨Nat.le_of_ble_eq_true rfl, Nat.le_of_ble_eq_true rfl⟩) (preT) rfl rfl hl.1 rfl (lv_room (Nat.le_of_ble_eq_true rfl)) dAc_shiftLeft_1 ⟨Nat.le_refl _, Nat.le_refl _⟩) ?_
  refine lv_lstore_n (lv' := [(2, .long (fDg_powerOfTen x)), (0, .ref (q 5)), (1, .int (x))]) hx hb dAc_shiftLeft_4 rfl hl (by decide) rfl (fun ls hl => ?_)
  refine lv_bipush (v := 10) hx hb dAc_shiftLeft_5 (by decide) ?_
  refine lv_iload_n hx hb dAc_shiftLeft_7 rfl (lv_at hl 2 rfl) ?_
  refine lv_isub hx hb dAc_shiftLeft_8 ?_
  refine cl_rd (W.runS (As := [.int ((10 - x))]) (rest := []) ⟨hx, hb, hml, hown, hts⟩ (kDg_powerOfTen l (10 - x)) (va_cwS 1 hts (gS wm3_170 wm3_171 wm1_14 wm3_172) rfl rfl rfl (by decide +kernel) ⟨Nat.le_of_ble_eq_true rfl, Nat.le_of_ble_eq_true rfl⟩) (preT) rfl rfl hl.1 rfl (lv_room (Nat.le_of_ble_eq_true rfl)) dAc_shiftLeft_9 ⟨Nat.le_refl _, Nat.le_refl _⟩) ?_
  refine lv_lstore (lv' := [(4, .long (fDg_powerOfTen (10 - x))), (2, .long (fDg_powerOfTen x)), (0, .ref (q 5)), (1, .int (x))]) hx hb dAc_shiftLeft_12 hl (by decide) rfl (fun ls hl => ?_)
  exact hB14 s.heap [] ls z0 (fDg_powerOfTen x) (fDg_powerOfTen (10 - x)) hR (f_pow_ne _) hP hS (lv_sub hl [2, 1, 0] rfl)
theorem dAc_shiftAndRound_0 : decode ccAc_shiftAndRound 0 = .ok (.aload_n 0, 1) := by decide +kernel
theorem dAc_shiftAndRound_1 : decode ccAc_shiftAndRound 1 = .ok (.getfield 13, 3) := by decide +kernel
theorem dAc_shiftAndRound_4 : decode ccAc_shiftAndRound 4 = .ok (.iload_n 1, 1) := by decide +kernel
theorem dAc_shiftAndRound_5 : decode ccAc_shiftAndRound 5 = .ok (.iconst 1, 1) := by decide +kernel
theorem dAc_shiftAndRound_6 : decode ccAc_shiftAndRound 6 = .ok (.isub, 1) := by decide +kernel
theorem dAc_shiftAndRound_7 : decode ccAc_shiftAndRound 7 = .ok (.invokestatic 50, 3) := by decide +kernel
theorem dAc_shiftAndRound_10 : decode ccAc_shiftAndRound 10 = .ok (.istore_n 2, 1) := by decide +kernel
theorem dAc_shiftAndRound_11 : decode ccAc_shiftAndRound 11 = .ok (.aload_n 0, 1) := by decide +kernel
theorem dAc_shiftAndRound_12 : decode ccAc_shiftAndRound 12 = .ok (.iload_n 1, 1) := by decide +kernel
theorem dAc_shiftAndRound_13 : decode ccAc_shiftAndRound 13 = .ok (.invokevirtual 54, 3) := by decide +kernel
theorem dAc_shiftAndRound_16 : decode ccAc_shiftAndRound 16 = .ok (.iload_n 2, 1) := by decide +kernel
theorem dAc_shiftAndRound_17 : decode ccAc_shiftAndRound 17 = .ok (.iconst 5, 1) := by decide +kernel
theorem dAc_shiftAndRound_18 : decode ccAc_shiftAndRound 18 = .ok (.if_icmp .lt 13, 3) := by decide +kernel
theorem dAc_shiftAndRound_21 : decode ccAc_shiftAndRound 21 = .ok (.aload_n 0, 1) := by decide +kernel
theorem dAc_shiftAndRound_22 : decode ccAc_shiftAndRound 22 = .ok (.lconst 0, 1) := by decide +kernel
theorem dAc_shiftAndRound_23 : decode ccAc_shiftAndRound 23 = .ok (.lconst 1, 1) := by decide +kernel
theorem dAc_shiftAndRound_24 : decode ccAc_shiftAndRound 24 = .ok (.aload_n 0, 1) := by decide +kernel
theorem dAc_shiftAndRound_25 : decode ccAc_shiftAndRound 25 = .ok (.getfield 16, 3) := by decide +kernel
theorem dAc_shiftAndRound_28 : decode ccAc_shiftAndRound 28 = .ok (.invokevirtual 58, 3) := by decide +kernel
theorem dAc_shiftAndRound_31 : decode ccAc_shiftAndRound 31 = .ok (.return_, 1) := by decide +kernel
def fAc_shiftAndRound_11  (z : SC) (x : Int32) (v2 : Int32) : SC :=
  (if v2 < (5 : Int32) then fAc_shiftRight z x else fAc_add (fAc_shiftRight z x) 0 1 (c_amin (fAc_shiftRight z x)))
def fAc_shiftAndRound (z0 : SC) (x : Int32) : SC :=
  fAc_shiftAndRound_11 z0 x (fDg_digitAt (c_lower z0) (x - 1))
set_option maxHeartbeats 4000000 in
set_option maxRecDepth 100000 in
theorem kAc_shiftAndRound (l : Launch) (D : va_G) (q : Nat → Nat) (cI cJ cZ : ClassId) (hq : c_inj q) (z0 : SC) (x : Int32)  : Met l yAc_shiftAndRound wsAc_shiftAndRound { frames := 2, cells := 0, slots := 0, locals := 55 } (va_Pc [.ref (q 5), .int (x)] (c_C D q cI cJ cZ z0)) (cQw none (c_W D q cI cJ cZ (fAc_shiftAndRound z0 x)) (c_qs q)) 0 0 (c_qs q) := by
  refine Met.ofW (cc := ccAc_shiftAndRound) (maxL := 3) (ret := none) (by decide +kernel) rfl ?_
  intro p e s m args below meth c s₁ B hml hv
  obtain ⟨rfl, hP, hK⟩ := hv
  have hx := B.exec
  have hb := B.bytes
  have hr := B.returns
  have hts := atoms_spec (ws := wsAc_shiftAndRound) B.pre
  have hown : s.vm.findClass RAc = some m.cls := findClass_of_methodNamed B.named
  have hlocks := B.notSynchronized
  have w0 := hts (.fieldLink RAc 16 "DrumMachine$Accumulator" "minus" "Z") (List.mem_cons_of_mem _ wm1_99)
  have w1 := hts (.fieldLink RAc 13 "DrumMachine$Accumulator" "lower" "J") (List.mem_cons_of_mem _ wm1_98)
  have i0 : ∀ w ∈ u_ws RAc TAc 4, w ∈ wsAc_shiftAndRound := fun w h => List.mem_cons_of_mem _ (inAAc w h)
  have hS : va_S (c_qs q) s.heap s.heap [] := va_S.rf
  have hl := lv_entry ([.ref (q 5), .int (x)]) (n := 3) (Nat.le_of_ble_eq_true rfl)
  rw [lg_entry_eq]
  generalize (lg_sl ([.ref (q 5), .int (x)]) ++ List.replicate (3 - (lg_sl ([.ref (q 5), .int (x)])).length) Slot.unset).toArray = ls at hl ⊢
  have hl : lv_has ls 3 [(0, .ref (q 5)), (1, .int (x))] := hl
  have hB11 : ∀ (H : Heap) (locs : List Loc) (ls : Array Slot) (z : SC) (v2 : Int32), fAc_shiftAndRound z0 x = fAc_shiftAndRound_11 z x v2 → c_W D q cI cJ cZ z H → va_S (c_qs q) s.heap H locs → lv_has ls 3 [(0, .ref (q 5)), (1, .int (x)), (2, .int (v2))] → W p l e (headSpec wsAc_shiftAndRound { frames := 2, cells := 0, slots := 0, locals := 55 }).room s m ([.ref (q 5), .int (x)] : List Value).toArray below meth c H locs 0 0 (MQ below (cQw none (c_W D q cI cJ cZ (fAc_shiftAndRound z0 x)) (c_qs q)) ([.ref (q 5), .int (x)] : List Value).toArray s 0 0 (c_qs q)) (F0 m 11 ls []) := by
    intro H locs ls z v2 hR hP hS hl
    rw [fAc_shiftAndRound_11.eq_1] at hR
    refine lv_aload_n hx hb dAc_shiftAndRound_11 rfl (lv_at hl 0 rfl) ?_
    refine lv_iload_n hx hb dAc_shiftAndRound_12 rfl (lv_at hl 1 rfl) ?_
    refine cl_wr (W.runV (As := [.int (x)]) (rest := []) ⟨hx, hb, hml, hown, hts⟩ (kAc_shiftRight l D q cI cJ cZ hq z x) (cwV 1 hts (gV wm3_186 wm3_175 wm3_176 wm1_7 wm3_177) rfl rfl rfl (by decide +kernel) ⟨Nat.le_of_ble_eq_true rfl, Nat.le_of_ble_eq_true rfl⟩) (c_preV5 hK hP) rfl rfl hl.1 rfl (lv_room (Nat.le_of_ble_eq_true rfl)) dAc_shiftAndRound_13 ⟨Nat.le_refl _, Nat.le_refl _⟩) hS (fun _ h => h) (fun _ h => h) (fun H locs hP hS => ?_)
    refine lv_iload_n hx hb dAc_shiftAndRound_16 rfl (lv_at hl 2 rfl) ?_
    refine lv_iconst (v := 5) hx hb dAc_shiftAndRound_17 (by decide) ?_
    refine lv_icmp_lt hx hb dAc_shiftAndRound_18 rfl (fun h18 => ?_) (fun h18 => ?_)
    · have hR := hR.trans (if_pos h18)
      exact W.vret hx hb hr (fun t ht _ => ⟨rfl, by rw [hR, ht]; exact hP, hS.F ht⟩) hS.2.2 dAc_shiftAndRound_31
    · have hR := hR.trans (if_neg h18)
      refine lv_aload_n hx hb dAc_shiftAndRound_21 rfl (lv_at hl 0 rfl) ?_
      refine lv_lconst (v := 0) hx hb dAc_shiftAndRound_22 (by decide) ?_
      refine lv_lconst (v := 1) hx hb dAc_shiftAndRound_23 (by decide) ?_
      refine lv_aload_n hx hb dAc_shiftAndRound_24 rfl (lv_at hl 0 rfl) ?_
      refine cg5_minus hx hb hts i0 hown hK hP w0 dAc_shiftAndRound_25 ?_
      refine cl_wr (W.runV (As := [.long (0), .long (1), .int (bb ((c_amin (fAc_shiftRight z x))))]) (rest := []) ⟨hx, hb, hml, hown, hts⟩ (kAc_add l D q cI cJ cZ hq (fAc_shiftRight z x) 0 1 (c_amin (fAc_shiftRight z x))) (cwV 3 hts (gV wm3_187 wm3_188 wm3_189 wm1_7 wm3_190) rfl rfl rfl (by decide +kernel) ⟨Nat.le_of_ble_eq_true rfl, Nat.le_of_ble_eq_true rfl⟩) (c_preV5 hK hP) rfl rfl hl.1 rfl (lv_room (Nat.le_of_ble_eq_true rfl)) dAc_shiftAndRound_28 ⟨Nat.le_refl _, Nat.le_refl _⟩) hS (fun _ h => h) (fun _ h => h) (fun H locs hP hS => ?_)
      exact W.vret hx hb hr (fun t ht _ => ⟨rfl, by rw [hR, ht]; exact hP, hS.F ht⟩) hS.2.2 dAc_shiftAndRound_31
  have hR := fAc_shiftAndRound.eq_1 z0 x
  refine lv_aload_n hx hb dAc_shiftAndRound_0 rfl (lv_at hl 0 rfl) ?_
  refine cg5_lower hx hb hts i0 hown hK hP w1 dAc_shiftAndRound_1 ?_
  refine lv_iload_n hx hb dAc_shiftAndRound_4 rfl (lv_at hl 1 rfl) ?_
  refine lv_iconst (v := 1) hx hb dAc_shiftAndRound_5 (by decide) ?_
  refine lv_isub hx hb dAc_shiftAndRound_6 ?_
  refine cl_rd (W.runS (As := [.long ((c_lower z0)), .int ((x - 1))]) (rest := []) ⟨hx, hb, hml, hown, hts⟩ (kDg_digitAt l (c_lower z0) (x - 1)) (va_cwS 2 hts (gS wm3_182 wm3_183 wm1_14 wm3_184) rfl rfl rfl (by decide +kernel) ⟨Nat.le_of_ble_eq_true rfl, Nat.le_of_ble_eq_true rfl⟩) (preT) rfl rfl hl.1 rfl (lv_room (Nat.le_of_ble_eq_true rfl)) dAc_shiftAndRound_7 ⟨Nat.le_refl _, Nat.le_refl _⟩) ?_
  refine lv_istore_n (lv' := [(2, .int (fDg_digitAt (c_lower z0) (x - 1))), (0, .ref (q 5)), (1, .int (x))]) hx hb dAc_shiftAndRound_10 rfl hl (by decide) rfl (fun ls hl => ?_)
  exact hB11 s.heap [] ls z0 (fDg_digitAt (c_lower z0) (x - 1)) hR hP hS (lv_sub hl [1, 2, 0] rfl)
